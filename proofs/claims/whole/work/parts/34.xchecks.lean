set_option maxHeartbeats 4000000 in
set_option maxRecDepth 100000 in
theorem c_X_checkShape {l : Launch} (hlt : l.stackTraces = false) {D : va_G} {cJ cI cZ cS : ClassId} {ws : va_W} {sz base : Nat} {x : Int32} : vx_Met l y_X_checkShape w_X_checkShape ({ frames := 6, cells := 1, slots := 6, locals := 90 } : Room) (gx_Pc D classes (gT cJ cI cZ cS) [.int x] ws sz base) (va_Qv (fun w => okS x ∧ w = ws) (gw_B D classes (gT cJ cI cZ cS) ws sz) (va_A ws sz)) (gX D classes (gT cJ cI cZ cS) ws sz (fun Z w => Z = xIOOB ∧ ¬ okS x ∧ w = ws)) 1 6 (va_A ws sz) := by
  refine gx_head (by decide) (Nat.le_of_ble_eq_true rfl) (fun p e s m below meth c hsz hx hb hr hlocks hml hown hnm hts hK hN hP hD hS hA hB hE hno ls hl => ?_)
  have hown : s.vm.findClass R_X = some m.cls := hown
  have hT : ∀ w ∈ wG, w ∈ Cond.code y_X_checkShape b_X_checkShape 1 none :: wG := gd_t _
  have hF : CallFix p m c b_X_checkShape 1 s ([.int x] : List Value).toArray (Cond.code y_X_checkShape b_X_checkShape 1 none :: wG) R_X := ⟨hx, hb, hml, hown, hts⟩
  have hl : lv_has ls 1 [(0, .int x)] := hl
  refine lv_iload_n hx hb d_X_checkShape_0 rfl (lv_at hl 0 rfl) ?_
  refine lv_if_lt (tgt := 10) hx hb d_X_checkShape_1 (by decide) (fun c1 => ?_) (fun c1 => ?_)
  · exact gx_throw (k := 0) hx hb hlt hF hT (by decide +kernel) wm_1_117 wm_1_10 rfl xt1 xb1 xo1 xg1 hK hN hP hD hS hB hE hno hlocks hl.1 d_X_checkShape_10 d_X_checkShape_13 d_X_checkShape_14 d_X_checkShape_16 d_X_checkShape_19 (Nat.le_of_ble_eq_true rfl) (Nat.le_of_ble_eq_true rfl) (Nat.le_of_ble_eq_true rfl) (Nat.le_of_ble_eq_true rfl) (Nat.le_of_ble_eq_true rfl) (Nat.le_of_ble_eq_true rfl) ⟨rfl, fun q => q.1 c1, rfl⟩
  · refine lv_iload_n hx hb d_X_checkShape_4 rfl (lv_at hl 0 rfl) ?_
    refine lv_bipush (v := nI 8) hx hb d_X_checkShape_5 (by decide) ?_
    refine lv_icmp_lt (tgt := 20) hx hb d_X_checkShape_7 (by decide) (fun c2 => ?_) (fun c2 => ?_)
    · exact vx_ret (gw_vret hx hb hr hlocks hK hP hD hS (Nat.le_of_ble_eq_true rfl) (Nat.le_of_ble_eq_true rfl) d_X_checkShape_20 ⟨⟨c1, c2⟩, rfl⟩)
    · exact gx_throw (k := 0) hx hb hlt hF hT (by decide +kernel) wm_1_117 wm_1_10 rfl xt1 xb1 xo1 xg1 hK hN hP hD hS hB hE hno hlocks hl.1 d_X_checkShape_10 d_X_checkShape_13 d_X_checkShape_14 d_X_checkShape_16 d_X_checkShape_19 (Nat.le_of_ble_eq_true rfl) (Nat.le_of_ble_eq_true rfl) (Nat.le_of_ble_eq_true rfl) (Nat.le_of_ble_eq_true rfl) (Nat.le_of_ble_eq_true rfl) (Nat.le_of_ble_eq_true rfl) ⟨rfl, fun q => c2 q.2, rfl⟩

set_option maxHeartbeats 4000000 in
set_option maxRecDepth 100000 in
theorem c_X_checkName {l : Launch} (hlt : l.stackTraces = false) {D : va_G} {cJ cI cZ cS : ClassId} {ws : va_W} {sz base : Nat} {b N : Nat} {A : Nat → Nat} {sf : Nat → Option Nat} {K B : Nat → Nat → Int64} {E : Nat → Int32} {Km Bm : Nat → Int64} {Em : Int32} {Lf Tr nu ne : Nat → Int64} {ct : Int32} (hx0 : xAt cJ cS ws b A N sf K B E Km Bm Em Lf Tr nu ne ct) (hN1 : 1 ≤ N) (hN5 : N ≤ 5) {x : Int32} : vx_Met l y_X_checkName w_X_checkName ({ frames := 6, cells := 1, slots := 6, locals := 90 } : Room) (gx_Pc D classes (gT cJ cI cZ cS) [.ref (A 0), .int x] ws sz base) (va_Qv (fun w => okN N x ∧ w = ws) (gw_B D classes (gT cJ cI cZ cS) ws sz) (va_A ws sz)) (gX D classes (gT cJ cI cZ cS) ws sz (fun Z w => Z = xIOOB ∧ ¬ okN N x ∧ w = ws)) 1 6 (va_A ws sz) := by
  refine gx_head (by decide) (Nat.le_of_ble_eq_true rfl) (fun p e s m below meth c hsz hx hb hr hlocks hml hown hnm hts hK hN hP hD hS hA hB hE hno ls hl => ?_)
  have hown : s.vm.findClass R_X = some m.cls := hown
  have hT : ∀ w ∈ wG, w ∈ Cond.code y_X_checkName b_X_checkName 2 none :: wG := gd_t _
  have hF : CallFix p m c b_X_checkName 2 s ([.ref (A 0), .int x] : List Value).toArray (Cond.code y_X_checkName b_X_checkName 2 none :: wG) R_X := ⟨hx, hb, hml, hown, hts⟩
  have hl : lv_has ls 2 [(0, .ref (A 0)), (1, .int x)] := hl
  obtain ⟨x0, x1, hsf, hX, ⟨s0, ⟨sko, skc⟩, ⟨sbo, sbc⟩⟩, ⟨lo, lc⟩, ⟨to, tc⟩, xn, xr⟩ := hx0
  have hn : 2 * N ≤ 10 := by omega
  have he : 2 * N % 2 = 0 := by omega
  refine lv_iload_n hx hb d_X_checkName_0 rfl (lv_at hl 1 rfl) ?_
  refine lv_iconst (v := nI 1) hx hb d_X_checkName_1 (by decide) ?_
  refine lv_icmp_lt (tgt := 13) hx hb d_X_checkName_2 (by decide) (fun c1 => ?_) (fun c1 => ?_)
  · exact gx_throw (k := 4) hx hb hlt hF hT (by decide +kernel) wm_1_117 wm_1_10 rfl xt1 xb1 xo1 xg1 hK hN hP hD hS hB hE hno hlocks hl.1 d_X_checkName_13 d_X_checkName_16 d_X_checkName_17 d_X_checkName_19 d_X_checkName_22 (Nat.le_of_ble_eq_true rfl) (Nat.le_of_ble_eq_true rfl) (Nat.le_of_ble_eq_true rfl) (Nat.le_of_ble_eq_true rfl) (Nat.le_of_ble_eq_true rfl) (Nat.le_of_ble_eq_true rfl) ⟨rfl, fun q => q.1 c1, rfl⟩
  · refine lv_iload_n hx hb d_X_checkName_5 rfl (lv_at hl 1 rfl) ?_
    refine lv_aload_n hx hb d_X_checkName_6 rfl (lv_at hl 0 rfl) ?_
    refine gf_X_18 hF hT hK hP x0 rfl d_X_checkName_7 ?_
    refine lv_icmp_le (tgt := 23) hx hb d_X_checkName_10 (by decide) (fun c2 => ?_) (fun c2 => ?_)
    · exact vx_ret (gw_vret hx hb hr hlocks hK hP hD hS (Nat.le_of_ble_eq_true rfl) (Nat.le_of_ble_eq_true rfl) d_X_checkName_23 ⟨⟨c1, c2⟩, rfl⟩)
    · exact gx_throw (k := 4) hx hb hlt hF hT (by decide +kernel) wm_1_117 wm_1_10 rfl xt1 xb1 xo1 xg1 hK hN hP hD hS hB hE hno hlocks hl.1 d_X_checkName_13 d_X_checkName_16 d_X_checkName_17 d_X_checkName_19 d_X_checkName_22 (Nat.le_of_ble_eq_true rfl) (Nat.le_of_ble_eq_true rfl) (Nat.le_of_ble_eq_true rfl) (Nat.le_of_ble_eq_true rfl) (Nat.le_of_ble_eq_true rfl) (Nat.le_of_ble_eq_true rfl) ⟨rfl, fun q => c2 q.2, rfl⟩

set_option maxHeartbeats 4000000 in
set_option maxRecDepth 100000 in
theorem c_X_checkTerm {l : Launch} (hlt : l.stackTraces = false) {D : va_G} {cJ cI cZ cS : ClassId} {ws : va_W} {sz base : Nat} {b N : Nat} {A : Nat → Nat} {sf : Nat → Option Nat} {K B : Nat → Nat → Int64} {E : Nat → Int32} {Km Bm : Nat → Int64} {Em : Int32} {Lf Tr nu ne : Nat → Int64} {ct : Int32} (hx0 : xAt cJ cS ws b A N sf K B E Km Bm Em Lf Tr nu ne ct) (hN1 : 1 ≤ N) (hN5 : N ≤ 5) {x : Int32} : vx_Met l y_X_checkTerm w_X_checkTerm ({ frames := 6, cells := 1, slots := 6, locals := 90 } : Room) (gx_Pc D classes (gT cJ cI cZ cS) [.ref (A 0), .int x] ws sz base) (va_Qv (fun w => okT N x ∧ w = ws) (gw_B D classes (gT cJ cI cZ cS) ws sz) (va_A ws sz)) (gX D classes (gT cJ cI cZ cS) ws sz (fun Z w => Z = xIOOB ∧ ¬ okT N x ∧ w = ws)) 1 6 (va_A ws sz) := by
  refine gx_head (by decide) (Nat.le_of_ble_eq_true rfl) (fun p e s m below meth c hsz hx hb hr hlocks hml hown hnm hts hK hN hP hD hS hA hB hE hno ls hl => ?_)
  have hown : s.vm.findClass R_X = some m.cls := hown
  have hT : ∀ w ∈ wG, w ∈ Cond.code y_X_checkTerm b_X_checkTerm 2 none :: wG := gd_t _
  have hF : CallFix p m c b_X_checkTerm 2 s ([.ref (A 0), .int x] : List Value).toArray (Cond.code y_X_checkTerm b_X_checkTerm 2 none :: wG) R_X := ⟨hx, hb, hml, hown, hts⟩
  have hl : lv_has ls 2 [(0, .ref (A 0)), (1, .int x)] := hl
  obtain ⟨x0, x1, hsf, hX, ⟨s0, ⟨sko, skc⟩, ⟨sbo, sbc⟩⟩, ⟨lo, lc⟩, ⟨to, tc⟩, xn, xr⟩ := hx0
  have hn : 2 * N ≤ 10 := by omega
  have he : 2 * N % 2 = 0 := by omega
  refine lv_iload_n hx hb d_X_checkTerm_0 rfl (lv_at hl 1 rfl) ?_
  refine lv_aload_n hx hb d_X_checkTerm_1 rfl (lv_at hl 0 rfl) ?_
  refine gf_X_18 hF hT hK hP x0 rfl d_X_checkTerm_2 ?_
  refine lv_ineg hx hb d_X_checkTerm_5 ?_
  refine lv_icmp_lt (tgt := 17) hx hb d_X_checkTerm_6 (by decide) (fun c1 => ?_) (fun c1 => ?_)
  · exact gx_throw (k := 1) hx hb hlt hF hT (by decide +kernel) wm_1_117 wm_1_10 rfl xt1 xb1 xo1 xg1 hK hN hP hD hS hB hE hno hlocks hl.1 d_X_checkTerm_17 d_X_checkTerm_20 d_X_checkTerm_21 d_X_checkTerm_23 d_X_checkTerm_26 (Nat.le_of_ble_eq_true rfl) (Nat.le_of_ble_eq_true rfl) (Nat.le_of_ble_eq_true rfl) (Nat.le_of_ble_eq_true rfl) (Nat.le_of_ble_eq_true rfl) (Nat.le_of_ble_eq_true rfl) ⟨rfl, fun q => q.1 c1, rfl⟩
  · refine lv_iload_n hx hb d_X_checkTerm_9 rfl (lv_at hl 1 rfl) ?_
    refine lv_aload_n hx hb d_X_checkTerm_10 rfl (lv_at hl 0 rfl) ?_
    refine gf_X_18 hF hT hK hP x0 rfl d_X_checkTerm_11 ?_
    refine lv_icmp_le (tgt := 27) hx hb d_X_checkTerm_14 (by decide) (fun c2 => ?_) (fun c2 => ?_)
    · exact vx_ret (gw_vret hx hb hr hlocks hK hP hD hS (Nat.le_of_ble_eq_true rfl) (Nat.le_of_ble_eq_true rfl) d_X_checkTerm_27 ⟨⟨c1, c2⟩, rfl⟩)
    · exact gx_throw (k := 1) hx hb hlt hF hT (by decide +kernel) wm_1_117 wm_1_10 rfl xt1 xb1 xo1 xg1 hK hN hP hD hS hB hE hno hlocks hl.1 d_X_checkTerm_17 d_X_checkTerm_20 d_X_checkTerm_21 d_X_checkTerm_23 d_X_checkTerm_26 (Nat.le_of_ble_eq_true rfl) (Nat.le_of_ble_eq_true rfl) (Nat.le_of_ble_eq_true rfl) (Nat.le_of_ble_eq_true rfl) (Nat.le_of_ble_eq_true rfl) (Nat.le_of_ble_eq_true rfl) ⟨rfl, fun q => c2 q.2, rfl⟩

set_option maxHeartbeats 4000000 in
set_option maxRecDepth 100000 in
theorem c_X_checkGiven {l : Launch} (hlt : l.stackTraces = false) {D : va_G} {cJ cI cZ cS : ClassId} {ws : va_W} {sz base : Nat} {v : Int64} : vx_Met l y_X_checkGiven w_X_checkGiven ({ frames := 6, cells := 1, slots := 6, locals := 90 } : Room) (gx_Pc D classes (gT cJ cI cZ cS) [.long v] ws sz base) (va_Qv (fun w => okG v ∧ w = ws) (gw_B D classes (gT cJ cI cZ cS) ws sz) (va_A ws sz)) (gX D classes (gT cJ cI cZ cS) ws sz (fun Z w => Z = xIAE ∧ ¬ okG v ∧ w = ws)) 1 6 (va_A ws sz) := by
  refine gx_head (by decide) (Nat.le_of_ble_eq_true rfl) (fun p e s m below meth c hsz hx hb hr hlocks hml hown hnm hts hK hN hP hD hS hA hB hE hno ls hl => ?_)
  have hown : s.vm.findClass R_X = some m.cls := hown
  have hT : ∀ w ∈ wG, w ∈ Cond.code y_X_checkGiven b_X_checkGiven 2 none :: wG := gd_t _
  have hF : CallFix p m c b_X_checkGiven 2 s ([.long v] : List Value).toArray (Cond.code y_X_checkGiven b_X_checkGiven 2 none :: wG) R_X := ⟨hx, hb, hml, hown, hts⟩
  have hl : lv_has ls 2 [(0, .long v)] := hl
  refine lv_lload_n hx hb d_X_checkGiven_0 rfl (lv_at hl 0 rfl) ?_
  refine lv_ldc2 (v := (-1000000000 : Int64)) hx hb hown (hts _ (hT _ wm_1_210)) d_X_checkGiven_1 ?_
  refine gx_llt (tgt := 16) hx hb d_X_checkGiven_4 d_X_checkGiven_5 (by decide) (fun c1 => ?_) (fun c1 => ?_)
  · exact gx_throw (k := 2) hx hb hlt hF hT (by decide +kernel) wm_1_212 wm_1_11 rfl xt2 xb2 xo2 xg2 hK hN hP hD hS hB hE hno hlocks hl.1 d_X_checkGiven_16 d_X_checkGiven_19 d_X_checkGiven_20 d_X_checkGiven_22 d_X_checkGiven_25 (Nat.le_of_ble_eq_true rfl) (Nat.le_of_ble_eq_true rfl) (Nat.le_of_ble_eq_true rfl) (Nat.le_of_ble_eq_true rfl) (Nat.le_of_ble_eq_true rfl) (Nat.le_of_ble_eq_true rfl) ⟨rfl, fun q => q.1 c1, rfl⟩
  · refine lv_lload_n hx hb d_X_checkGiven_8 rfl (lv_at hl 0 rfl) ?_
    refine lv_ldc2 (v := (1000000000 : Int64)) hx hb hown (hts _ (hT _ wm_1_211)) d_X_checkGiven_9 ?_
    refine gx_lle (tgt := 26) hx hb d_X_checkGiven_12 d_X_checkGiven_13 (by decide) (fun c2 => ?_) (fun c2 => ?_)
    · exact vx_ret (gw_vret hx hb hr hlocks hK hP hD hS (Nat.le_of_ble_eq_true rfl) (Nat.le_of_ble_eq_true rfl) d_X_checkGiven_26 ⟨⟨c1, c2⟩, rfl⟩)
    · exact gx_throw (k := 2) hx hb hlt hF hT (by decide +kernel) wm_1_212 wm_1_11 rfl xt2 xb2 xo2 xg2 hK hN hP hD hS hB hE hno hlocks hl.1 d_X_checkGiven_16 d_X_checkGiven_19 d_X_checkGiven_20 d_X_checkGiven_22 d_X_checkGiven_25 (Nat.le_of_ble_eq_true rfl) (Nat.le_of_ble_eq_true rfl) (Nat.le_of_ble_eq_true rfl) (Nat.le_of_ble_eq_true rfl) (Nat.le_of_ble_eq_true rfl) (Nat.le_of_ble_eq_true rfl) ⟨rfl, fun q => c2 q.2, rfl⟩

set_option maxHeartbeats 4000000 in
set_option maxRecDepth 100000 in
theorem c_X_checkShapes {l : Launch} (hlt : l.stackTraces = false) {D : va_G} {cJ cI cZ cS : ClassId} {ws : va_W} {sz base : Nat} {x y z : Int32} : vx_Met l y_X_checkShapes w_X_checkShapes ({ frames := 7, cells := 3, slots := 18, locals := 110 } : Room) (gx_Pc D classes (gT cJ cI cZ cS) [.int x, .int y, .int z] ws sz base) (va_Qv (fun w => (okS x ∧ okS y ∧ okS z) ∧ w = ws) (gw_B D classes (gT cJ cI cZ cS) ws sz) (va_A ws sz)) (gX D classes (gT cJ cI cZ cS) ws sz (fun Z w => Z = xIOOB ∧ ¬ (okS x ∧ okS y ∧ okS z) ∧ w = ws)) 3 18 (va_A ws sz) := by
  refine gx_head (by decide) (Nat.le_of_ble_eq_true rfl) (fun p e s m below meth c hsz hx hb hr hlocks hml hown hnm hts hK hN hP hD hS hA hB hE hno ls hl => ?_)
  have hown : s.vm.findClass R_X = some m.cls := hown
  have hT : ∀ w ∈ wG, w ∈ Cond.code y_X_checkShapes b_X_checkShapes 3 none :: wG := gd_t _
  have hF : CallFix p m c b_X_checkShapes 3 s ([.int x, .int y, .int z] : List Value).toArray (Cond.code y_X_checkShapes b_X_checkShapes 3 none :: wG) R_X := ⟨hx, hb, hml, hown, hts⟩
  have hl : lv_has ls 3 [(0, .int x), (1, .int y), (2, .int z)] := hl
  refine lv_iload_n hx hb d_X_checkShapes_0 rfl (lv_at hl 0 rfl) ?_
  refine gx_cv0 (gxc_X_58 (As := [.int x]) (rest := []) hF hT (c_X_checkShape hlt) ⟨(Nat.le_of_ble_eq_true rfl), (Nat.le_of_ble_eq_true rfl)⟩ rfl rfl (gx_pre hK hN hP hD hS hB hA hE) rfl hl.1 rfl (Nat.le_of_ble_eq_true rfl) d_X_checkShapes_1 ⟨(Nat.le_of_ble_eq_true rfl), (Nat.le_of_ble_eq_true rfl)⟩) hK hD hS hA hno hlocks (Nat.le_of_ble_eq_true rfl) (Nat.le_of_ble_eq_true rfl) (fun Z u q => by obtain ⟨q1, q2, q3⟩ := q; exact ⟨q1, fun q => q2 q.1, q3⟩) (fun H locs h1 hP hD hS => ?_)
  refine lv_iload_n hx hb d_X_checkShapes_4 rfl (lv_at hl 1 rfl) ?_
  refine gx_cv0 (gxc_X_58 (As := [.int y]) (rest := []) hF hT (c_X_checkShape hlt) ⟨(Nat.le_of_ble_eq_true rfl), (Nat.le_of_ble_eq_true rfl)⟩ rfl rfl (gx_pre hK hN hP hD hS hB hA hE) rfl hl.1 rfl (Nat.le_of_ble_eq_true rfl) d_X_checkShapes_5 ⟨(Nat.le_of_ble_eq_true rfl), (Nat.le_of_ble_eq_true rfl)⟩) hK hD hS hA hno hlocks (Nat.le_of_ble_eq_true rfl) (Nat.le_of_ble_eq_true rfl) (fun Z u q => by obtain ⟨q1, q2, q3⟩ := q; exact ⟨q1, fun q => q2 q.2.1, q3⟩) (fun H locs h2 hP hD hS => ?_)
  refine lv_iload_n hx hb d_X_checkShapes_8 rfl (lv_at hl 2 rfl) ?_
  refine gx_cv0 (gxc_X_58 (As := [.int z]) (rest := []) hF hT (c_X_checkShape hlt) ⟨(Nat.le_of_ble_eq_true rfl), (Nat.le_of_ble_eq_true rfl)⟩ rfl rfl (gx_pre hK hN hP hD hS hB hA hE) rfl hl.1 rfl (Nat.le_of_ble_eq_true rfl) d_X_checkShapes_9 ⟨(Nat.le_of_ble_eq_true rfl), (Nat.le_of_ble_eq_true rfl)⟩) hK hD hS hA hno hlocks (Nat.le_of_ble_eq_true rfl) (Nat.le_of_ble_eq_true rfl) (fun Z u q => by obtain ⟨q1, q2, q3⟩ := q; exact ⟨q1, fun q => q2 q.2.2, q3⟩) (fun H locs h3 hP hD hS => ?_)
  exact vx_ret (gw_vret hx hb hr hlocks hK hP hD hS (Nat.le_of_ble_eq_true rfl) (Nat.le_of_ble_eq_true rfl) d_X_checkShapes_12 ⟨⟨h1, h2, h3⟩, rfl⟩)
