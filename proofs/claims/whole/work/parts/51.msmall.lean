set_option maxHeartbeats 4000000 in
set_option maxRecDepth 100000 in
theorem c_M_thrown {l : Launch} {D : va_G} {cJ cI cZ cS : ClassId} {ws : va_W} {sz : Nat} {b N nm : Nat} {A : Nat → Nat} {th : Int32}  (m0 : ws[b]? = some (A 0, .inr (3, [.int th, .int (nI N), .ref (A 1), .ref (A 2), .ref (A 3), .ref (A 4), .ref (A 5), .ref (A 6), .int (nI nm), .ref (A 7), .ref (A 8), .ref (A 9), .ref (A 10)]))) (hN1 : 1 ≤ N) (hN5 : N ≤ 5) : Met l y_M_thrown w_M_thrown ({ frames := 1, cells := 0, slots := 0, locals := 0 } : Room) (gw_Pc D classes (gT cJ cI cZ cS) [.ref (A 0)] ws sz) (va_Qi (fun r w => (r = th) ∧ w = ws) (gw_B D classes (gT cJ cI cZ cS) ws sz) (va_A ws sz)) 0 0 (va_A ws sz) := by
  refine gw_head (by decide) (Nat.le_of_ble_eq_true rfl) (fun p e s m below meth c hsz hx hb hr hlocks hml hown hnm hts hK hN hP hD hS hA ls hl => ?_)
  have hown : s.vm.findClass R_M = some m.cls := hown
  have hT : ∀ w ∈ wG, w ∈ Cond.code y_M_thrown b_M_thrown 1 (some .int) :: wG := gd_t _
  have hF : CallFix p m c b_M_thrown 1 s ([.ref (A 0)] : List Value).toArray (Cond.code y_M_thrown b_M_thrown 1 (some .int) :: wG) R_M := ⟨hx, hb, hml, hown, hts⟩
  have hl : lv_has ls 1 [(0, .ref (A 0))] := hl
  refine lv_aload_n hx hb d_M_thrown_0 rfl (lv_at hl 0 rfl) ?_
  refine gf_M_48 hF hT hK hP m0 rfl d_M_thrown_1 ?_
  exact gw_iret hx hb hr hlocks hK hP hD hS (Nat.le_of_ble_eq_true rfl) (Nat.le_of_ble_eq_true rfl) d_M_thrown_4 ⟨rfl, rfl⟩

set_option maxHeartbeats 4000000 in
set_option maxRecDepth 100000 in
theorem c_M_isShape {l : Launch} {D : va_G} {cJ cI cZ cS : ClassId} {ws : va_W} {sz : Nat} {b N nm : Nat} {A : Nat → Nat} {th : Int32}  (m0 : ws[b]? = some (A 0, .inr (3, [.int th, .int (nI N), .ref (A 1), .ref (A 2), .ref (A 3), .ref (A 4), .ref (A 5), .ref (A 6), .int (nI nm), .ref (A 7), .ref (A 8), .ref (A 9), .ref (A 10)]))) (hN1 : 1 ≤ N) (hN5 : N ≤ 5) {x : Int32} : Met l y_M_isShape w_M_isShape ({ frames := 1, cells := 0, slots := 0, locals := 0 } : Room) (gw_Pc D classes (gT cJ cI cZ cS) [.ref (A 0), .int x] ws sz) (va_Qi (fun r w => ((r = nI 1 ∧ okS x) ∨ (r = nI 0 ∧ ¬ okS x)) ∧ w = ws) (gw_B D classes (gT cJ cI cZ cS) ws sz) (va_A ws sz)) 0 0 (va_A ws sz) := by
  refine gw_head (by decide) (Nat.le_of_ble_eq_true rfl) (fun p e s m below meth c hsz hx hb hr hlocks hml hown hnm hts hK hN hP hD hS hA ls hl => ?_)
  have hown : s.vm.findClass R_M = some m.cls := hown
  have hT : ∀ w ∈ wG, w ∈ Cond.code y_M_isShape b_M_isShape 2 (some .boolean) :: wG := gd_t _
  have hF : CallFix p m c b_M_isShape 2 s ([.ref (A 0), .int x] : List Value).toArray (Cond.code y_M_isShape b_M_isShape 2 (some .boolean) :: wG) R_M := ⟨hx, hb, hml, hown, hts⟩
  have hl : lv_has ls 2 [(0, .ref (A 0)), (1, .int x)] := hl
  refine lv_iload_n hx hb d_M_isShape_0 rfl (lv_at hl 1 rfl) ?_
  refine lv_if_lt (tgt := 14) hx hb d_M_isShape_1 (by decide) (fun c1 => ?_) (fun c1 => ?_)
  · refine lv_iconst (v := nI 0) hx hb d_M_isShape_14 (by decide) ?_
    exact gw_zret hx hb hr hlocks hK hP hD hS (Nat.le_of_ble_eq_true rfl) (Nat.le_of_ble_eq_true rfl) rfl d_M_isShape_15 ⟨Or.inr ⟨rfl, fun q => q.1 c1⟩, rfl⟩
  · refine lv_iload_n hx hb d_M_isShape_4 rfl (lv_at hl 1 rfl) ?_
    refine lv_bipush (v := nI 8) hx hb d_M_isShape_5 (by decide) ?_
    refine lv_icmp_ge (tgt := 14) hx hb d_M_isShape_7 (by decide) (fun c2 => ?_) (fun c2 => ?_)
    · refine lv_iconst (v := nI 0) hx hb d_M_isShape_14 (by decide) ?_
      exact gw_zret hx hb hr hlocks hK hP hD hS (Nat.le_of_ble_eq_true rfl) (Nat.le_of_ble_eq_true rfl) rfl d_M_isShape_15 ⟨Or.inr ⟨rfl, fun q => Int32.not_le.mpr q.2 c2⟩, rfl⟩
    · refine lv_iconst (v := nI 1) hx hb d_M_isShape_10 (by decide) ?_
      refine lv_goto (tgt := 15) hx hb d_M_isShape_11 (by decide) ?_
      exact gw_zret hx hb hr hlocks hK hP hD hS (Nat.le_of_ble_eq_true rfl) (Nat.le_of_ble_eq_true rfl) rfl d_M_isShape_15 ⟨Or.inl ⟨rfl, ⟨c1, Int32.not_le.mp c2⟩⟩, rfl⟩

set_option maxHeartbeats 4000000 in
set_option maxRecDepth 100000 in
theorem c_M_isName {l : Launch} {D : va_G} {cJ cI cZ cS : ClassId} {ws : va_W} {sz : Nat} {b N nm : Nat} {A : Nat → Nat} {th : Int32}  (m0 : ws[b]? = some (A 0, .inr (3, [.int th, .int (nI N), .ref (A 1), .ref (A 2), .ref (A 3), .ref (A 4), .ref (A 5), .ref (A 6), .int (nI nm), .ref (A 7), .ref (A 8), .ref (A 9), .ref (A 10)]))) (hN1 : 1 ≤ N) (hN5 : N ≤ 5) {x : Int32} : Met l y_M_isName w_M_isName ({ frames := 1, cells := 0, slots := 0, locals := 0 } : Room) (gw_Pc D classes (gT cJ cI cZ cS) [.ref (A 0), .int x] ws sz) (va_Qi (fun r w => ((r = nI 1 ∧ okN N x) ∨ (r = nI 0 ∧ ¬ okN N x)) ∧ w = ws) (gw_B D classes (gT cJ cI cZ cS) ws sz) (va_A ws sz)) 0 0 (va_A ws sz) := by
  refine gw_head (by decide) (Nat.le_of_ble_eq_true rfl) (fun p e s m below meth c hsz hx hb hr hlocks hml hown hnm hts hK hN hP hD hS hA ls hl => ?_)
  have hown : s.vm.findClass R_M = some m.cls := hown
  have hT : ∀ w ∈ wG, w ∈ Cond.code y_M_isName b_M_isName 2 (some .boolean) :: wG := gd_t _
  have hF : CallFix p m c b_M_isName 2 s ([.ref (A 0), .int x] : List Value).toArray (Cond.code y_M_isName b_M_isName 2 (some .boolean) :: wG) R_M := ⟨hx, hb, hml, hown, hts⟩
  have hl : lv_has ls 2 [(0, .ref (A 0)), (1, .int x)] := hl
  refine lv_iload_n hx hb d_M_isName_0 rfl (lv_at hl 1 rfl) ?_
  refine lv_iconst (v := nI 1) hx hb d_M_isName_1 (by decide) ?_
  refine lv_icmp_lt (tgt := 17) hx hb d_M_isName_2 (by decide) (fun c1 => ?_) (fun c1 => ?_)
  · refine lv_iconst (v := nI 0) hx hb d_M_isName_17 (by decide) ?_
    exact gw_zret hx hb hr hlocks hK hP hD hS (Nat.le_of_ble_eq_true rfl) (Nat.le_of_ble_eq_true rfl) rfl d_M_isName_18 ⟨Or.inr ⟨rfl, fun q => q.1 c1⟩, rfl⟩
  · refine lv_iload_n hx hb d_M_isName_5 rfl (lv_at hl 1 rfl) ?_
    refine lv_aload_n hx hb d_M_isName_6 rfl (lv_at hl 0 rfl) ?_
    refine gf_M_42 hF hT hK hP m0 rfl d_M_isName_7 ?_
    refine lv_icmp_gt (tgt := 17) hx hb d_M_isName_10 (by decide) (fun c2 => ?_) (fun c2 => ?_)
    · refine lv_iconst (v := nI 0) hx hb d_M_isName_17 (by decide) ?_
      exact gw_zret hx hb hr hlocks hK hP hD hS (Nat.le_of_ble_eq_true rfl) (Nat.le_of_ble_eq_true rfl) rfl d_M_isName_18 ⟨Or.inr ⟨rfl, fun q => Int32.not_lt.mpr q.2 c2⟩, rfl⟩
    · refine lv_iconst (v := nI 1) hx hb d_M_isName_13 (by decide) ?_
      refine lv_goto (tgt := 18) hx hb d_M_isName_14 (by decide) ?_
      exact gw_zret hx hb hr hlocks hK hP hD hS (Nat.le_of_ble_eq_true rfl) (Nat.le_of_ble_eq_true rfl) rfl d_M_isName_18 ⟨Or.inl ⟨rfl, ⟨c1, Int32.not_lt.mp c2⟩⟩, rfl⟩

set_option maxHeartbeats 4000000 in
set_option maxRecDepth 100000 in
theorem c_M_isTerm {l : Launch} {D : va_G} {cJ cI cZ cS : ClassId} {ws : va_W} {sz : Nat} {b N nm : Nat} {A : Nat → Nat} {th : Int32}  (m0 : ws[b]? = some (A 0, .inr (3, [.int th, .int (nI N), .ref (A 1), .ref (A 2), .ref (A 3), .ref (A 4), .ref (A 5), .ref (A 6), .int (nI nm), .ref (A 7), .ref (A 8), .ref (A 9), .ref (A 10)]))) (hN1 : 1 ≤ N) (hN5 : N ≤ 5) {x : Int32} : Met l y_M_isTerm w_M_isTerm ({ frames := 1, cells := 0, slots := 0, locals := 0 } : Room) (gw_Pc D classes (gT cJ cI cZ cS) [.ref (A 0), .int x] ws sz) (va_Qi (fun r w => ((r = nI 1 ∧ okT N x) ∨ (r = nI 0 ∧ ¬ okT N x)) ∧ w = ws) (gw_B D classes (gT cJ cI cZ cS) ws sz) (va_A ws sz)) 0 0 (va_A ws sz) := by
  refine gw_head (by decide) (Nat.le_of_ble_eq_true rfl) (fun p e s m below meth c hsz hx hb hr hlocks hml hown hnm hts hK hN hP hD hS hA ls hl => ?_)
  have hown : s.vm.findClass R_M = some m.cls := hown
  have hT : ∀ w ∈ wG, w ∈ Cond.code y_M_isTerm b_M_isTerm 2 (some .boolean) :: wG := gd_t _
  have hF : CallFix p m c b_M_isTerm 2 s ([.ref (A 0), .int x] : List Value).toArray (Cond.code y_M_isTerm b_M_isTerm 2 (some .boolean) :: wG) R_M := ⟨hx, hb, hml, hown, hts⟩
  have hl : lv_has ls 2 [(0, .ref (A 0)), (1, .int x)] := hl
  refine lv_iload_n hx hb d_M_isTerm_0 rfl (lv_at hl 1 rfl) ?_
  refine lv_aload_n hx hb d_M_isTerm_1 rfl (lv_at hl 0 rfl) ?_
  refine gf_M_42 hF hT hK hP m0 rfl d_M_isTerm_2 ?_
  refine lv_ineg hx hb d_M_isTerm_5 ?_
  refine lv_icmp_lt (tgt := 21) hx hb d_M_isTerm_6 (by decide) (fun c1 => ?_) (fun c1 => ?_)
  · refine lv_iconst (v := nI 0) hx hb d_M_isTerm_21 (by decide) ?_
    exact gw_zret hx hb hr hlocks hK hP hD hS (Nat.le_of_ble_eq_true rfl) (Nat.le_of_ble_eq_true rfl) rfl d_M_isTerm_22 ⟨Or.inr ⟨rfl, fun q => q.1 c1⟩, rfl⟩
  · refine lv_iload_n hx hb d_M_isTerm_9 rfl (lv_at hl 1 rfl) ?_
    refine lv_aload_n hx hb d_M_isTerm_10 rfl (lv_at hl 0 rfl) ?_
    refine gf_M_42 hF hT hK hP m0 rfl d_M_isTerm_11 ?_
    refine lv_icmp_gt (tgt := 21) hx hb d_M_isTerm_14 (by decide) (fun c2 => ?_) (fun c2 => ?_)
    · refine lv_iconst (v := nI 0) hx hb d_M_isTerm_21 (by decide) ?_
      exact gw_zret hx hb hr hlocks hK hP hD hS (Nat.le_of_ble_eq_true rfl) (Nat.le_of_ble_eq_true rfl) rfl d_M_isTerm_22 ⟨Or.inr ⟨rfl, fun q => Int32.not_lt.mpr q.2 c2⟩, rfl⟩
    · refine lv_iconst (v := nI 1) hx hb d_M_isTerm_17 (by decide) ?_
      refine lv_goto (tgt := 22) hx hb d_M_isTerm_18 (by decide) ?_
      exact gw_zret hx hb hr hlocks hK hP hD hS (Nat.le_of_ble_eq_true rfl) (Nat.le_of_ble_eq_true rfl) rfl d_M_isTerm_22 ⟨Or.inl ⟨rfl, ⟨c1, Int32.not_lt.mp c2⟩⟩, rfl⟩

set_option maxHeartbeats 4000000 in
set_option maxRecDepth 100000 in
theorem c_M_at {l : Launch} {D : va_G} {cJ cI cZ cS : ClassId} {ws : va_W} {sz : Nat} {x : Int32} (hs : lr_sm x) (hz : ¬ x = 0) : Met l y_M_at w_M_at ({ frames := 1, cells := 0, slots := 0, locals := 0 } : Room) (gw_Pc D classes (gT cJ cI cZ cS) [.int x] ws sz) (va_Qi (fun r w => (r = nI (lr_pl x)) ∧ w = ws) (gw_B D classes (gT cJ cI cZ cS) ws sz) (va_A ws sz)) 0 0 (va_A ws sz) := by
  refine gw_head (by decide) (Nat.le_of_ble_eq_true rfl) (fun p e s m below meth c hsz hx hb hr hlocks hml hown hnm hts hK hN hP hD hS hA ls hl => ?_)
  have hown : s.vm.findClass R_M = some m.cls := hown
  have hT : ∀ w ∈ wG, w ∈ Cond.code y_M_at b_M_at 1 (some .int) :: wG := gd_t _
  have hF : CallFix p m c b_M_at 1 s ([.int x] : List Value).toArray (Cond.code y_M_at b_M_at 1 (some .int) :: wG) R_M := ⟨hx, hb, hml, hown, hts⟩
  have hl : lv_has ls 1 [(0, .int x)] := hl
  refine lv_iload_n hx hb d_M_at_0 rfl (lv_at hl 0 rfl) ?_
  refine lv_if_le (tgt := 12) hx hb d_M_at_1 (by decide) (fun c1 => ?_) (fun c1 => ?_)
  · refine lv_bipush (v := -2) hx hb d_M_at_12 (by decide) ?_
    refine lv_iload_n hx hb d_M_at_14 rfl (lv_at hl 0 rfl) ?_
    refine lv_imul hx hb d_M_at_15 ?_
    refine lv_iconst (v := nI 1) hx hb d_M_at_16 (by decide) ?_
    refine lv_isub hx hb d_M_at_17 ?_
    exact gw_iret hx hb hr hlocks hK hP hD hS (Nat.le_of_ble_eq_true rfl) (Nat.le_of_ble_eq_true rfl) d_M_at_18 ⟨lm_at_neg hs hz c1, rfl⟩
  · refine lv_iconst (v := nI 2) hx hb d_M_at_4 (by decide) ?_
    refine lv_iload_n hx hb d_M_at_5 rfl (lv_at hl 0 rfl) ?_
    refine lv_imul hx hb d_M_at_6 ?_
    refine lv_iconst (v := nI 2) hx hb d_M_at_7 (by decide) ?_
    refine lv_isub hx hb d_M_at_8 ?_
    refine lv_goto (tgt := 18) hx hb d_M_at_9 (by decide) ?_
    exact gw_iret hx hb hr hlocks hK hP hD hS (Nat.le_of_ble_eq_true rfl) (Nat.le_of_ble_eq_true rfl) d_M_at_18 ⟨lm_at_pos hs (Int32.not_le.mp c1), rfl⟩

set_option maxHeartbeats 4000000 in
set_option maxRecDepth 100000 in
theorem c_M_opposite {l : Launch} {D : va_G} {cJ cI cZ cS : ClassId} {ws : va_W} {sz : Nat} {i : Nat} (hi : i < 1000) : Met l y_M_opposite w_M_opposite ({ frames := 1, cells := 0, slots := 0, locals := 0 } : Room) (gw_Pc D classes (gT cJ cI cZ cS) [.int (nI i)] ws sz) (va_Qi (fun r w => (r = nI (lr_op i)) ∧ w = ws) (gw_B D classes (gT cJ cI cZ cS) ws sz) (va_A ws sz)) 0 0 (va_A ws sz) := by
  refine gw_head (by decide) (Nat.le_of_ble_eq_true rfl) (fun p e s m below meth c hsz hx hb hr hlocks hml hown hnm hts hK hN hP hD hS hA ls hl => ?_)
  have hown : s.vm.findClass R_M = some m.cls := hown
  have hT : ∀ w ∈ wG, w ∈ Cond.code y_M_opposite b_M_opposite 1 (some .int) :: wG := gd_t _
  have hF : CallFix p m c b_M_opposite 1 s ([.int (nI i)] : List Value).toArray (Cond.code y_M_opposite b_M_opposite 1 (some .int) :: wG) R_M := ⟨hx, hb, hml, hown, hts⟩
  have hl : lv_has ls 1 [(0, .int (nI i))] := hl
  refine lv_iload_n hx hb d_M_opposite_0 rfl (lv_at hl 0 rfl) ?_
  refine lv_iconst (v := nI 2) hx hb d_M_opposite_1 (by decide) ?_
  refine lv_irem hx hb d_M_opposite_2 (by decide) ?_
  refine gx_i (y := nI (i % 2)) (pk_rem (by omega) (by omega) (by omega)) ?_
  refine lv_if_ne (tgt := 12) hx hb d_M_opposite_3 (by decide) (fun c1 => ?_) (fun c1 => ?_)
  · have c1 : ¬ (i % 2 = 0) := fun z => c1 ((nI_eq (a := (i % 2)) (b := 0) (by omega) (by omega)).mpr z)
    refine lv_iload_n hx hb d_M_opposite_12 rfl (lv_at hl 0 rfl) ?_
    refine lv_iconst (v := nI 1) hx hb d_M_opposite_13 (by decide) ?_
    refine lv_isub hx hb d_M_opposite_14 ?_
    refine gx_i (y := nI (i - 1)) (pk_sub (by omega)) ?_
    exact gw_iret hx hb hr hlocks hK hP hD hS (Nat.le_of_ble_eq_true rfl) (Nat.le_of_ble_eq_true rfl) d_M_opposite_15 ⟨by unfold lr_op; rw [if_neg c1], rfl⟩
  · have c1 := (nI_eq (a := (i % 2)) (b := 0) (by omega) (by omega)).mp c1
    refine lv_iload_n hx hb d_M_opposite_6 rfl (lv_at hl 0 rfl) ?_
    refine lv_iconst (v := nI 1) hx hb d_M_opposite_7 (by decide) ?_
    refine lv_iadd hx hb d_M_opposite_8 ?_
    refine gx_i (y := nI (i + 1)) (nI_add _ _) ?_
    refine lv_goto (tgt := 15) hx hb d_M_opposite_9 (by decide) ?_
    exact gw_iret hx hb hr hlocks hK hP hD hS (Nat.le_of_ble_eq_true rfl) (Nat.le_of_ble_eq_true rfl) d_M_opposite_15 ⟨by unfold lr_op; rw [if_pos c1], rfl⟩

set_option maxHeartbeats 4000000 in
set_option maxRecDepth 100000 in
theorem c_M_half {l : Launch} {D : va_G} {cJ cI cZ cS : ClassId} {ws : va_W} {sz : Nat} {x : Int64} : Met l y_M_half w_M_half ({ frames := 1, cells := 0, slots := 0, locals := 0 } : Room) (gw_Pc D classes (gT cJ cI cZ cS) [.long x] ws sz) (va_Ql (fun r w => (r = lm_half x) ∧ w = ws) (gw_B D classes (gT cJ cI cZ cS) ws sz) (va_A ws sz)) 0 0 (va_A ws sz) := by
  refine gw_head (by decide) (Nat.le_of_ble_eq_true rfl) (fun p e s m below meth c hsz hx hb hr hlocks hml hown hnm hts hK hN hP hD hS hA ls hl => ?_)
  have hown : s.vm.findClass R_M = some m.cls := hown
  have hT : ∀ w ∈ wG, w ∈ Cond.code y_M_half b_M_half 2 (some .long) :: wG := gd_t _
  have hF : CallFix p m c b_M_half 2 s ([.long x] : List Value).toArray (Cond.code y_M_half b_M_half 2 (some .long) :: wG) R_M := ⟨hx, hb, hml, hown, hts⟩
  have hl : lv_has ls 2 [(0, .long x)] := hl
  refine lv_lload_n hx hb d_M_half_0 rfl (lv_at hl 0 rfl) ?_
  refine lv_lconst (v := 0) hx hb d_M_half_1 rfl ?_
  refine gx_llt (tgt := 14) hx hb d_M_half_2 d_M_half_3 (by decide) (fun c1 => ?_) (fun c1 => ?_)
  · refine lv_lload_n hx hb d_M_half_14 rfl (lv_at hl 0 rfl) ?_
    refine lv_lconst (v := 1) hx hb d_M_half_15 rfl ?_
    refine lv_lsub hx hb d_M_half_16 ?_
    refine lv_ldc2 (v := (2 : Int64)) hx hb hown (hts _ (hT _ wm_3_202)) d_M_half_17 ?_
    refine lv_ldiv hx hb d_M_half_20 (by decide) ?_
    exact gw_lret hx hb hr hlocks hK hP hD hS (Nat.le_of_ble_eq_true rfl) (Nat.le_of_ble_eq_true rfl) d_M_half_21 ⟨(if_pos c1).symm, rfl⟩
  · refine lv_lload_n hx hb d_M_half_6 rfl (lv_at hl 0 rfl) ?_
    refine lv_ldc2 (v := (2 : Int64)) hx hb hown (hts _ (hT _ wm_3_202)) d_M_half_7 ?_
    refine lv_ldiv hx hb d_M_half_10 (by decide) ?_
    refine lv_goto (tgt := 21) hx hb d_M_half_11 (by decide) ?_
    exact gw_lret hx hb hr hlocks hK hP hD hS (Nat.le_of_ble_eq_true rfl) (Nat.le_of_ble_eq_true rfl) d_M_half_21 ⟨(if_neg c1).symm, rfl⟩

set_option maxHeartbeats 4000000 in
set_option maxRecDepth 100000 in
theorem c_M_sum {l : Launch} {D : va_G} {cJ cI cZ cS : ClassId} {ws : va_W} {sz : Nat} {x y : Int64} : Met l y_M_sum w_M_sum ({ frames := 1, cells := 0, slots := 0, locals := 0 } : Room) (gw_Pc D classes (gT cJ cI cZ cS) [.long x, .long y] ws sz) (va_Ql (fun r w => (r = lr_plus x y) ∧ w = ws) (gw_B D classes (gT cJ cI cZ cS) ws sz) (va_A ws sz)) 0 0 (va_A ws sz) := by
  refine gw_head (by decide) (Nat.le_of_ble_eq_true rfl) (fun p e s m below meth c hsz hx hb hr hlocks hml hown hnm hts hK hN hP hD hS hA ls hl => ?_)
  have hown : s.vm.findClass R_M = some m.cls := hown
  have hT : ∀ w ∈ wG, w ∈ Cond.code y_M_sum b_M_sum 4 (some .long) :: wG := gd_t _
  have hF : CallFix p m c b_M_sum 4 s ([.long x, .long y] : List Value).toArray (Cond.code y_M_sum b_M_sum 4 (some .long) :: wG) R_M := ⟨hx, hb, hml, hown, hts⟩
  have hl : lv_has ls 4 [(0, .long x), (2, .long y)] := hl
  refine lv_lload_n hx hb d_M_sum_0 rfl (lv_at hl 0 rfl) ?_
  refine lv_ldc2 (v := lr_E) hx hb hown (hts _ (hT _ wm_3_124)) d_M_sum_1 ?_
  refine gx_leq (tgt := 16) hx hb d_M_sum_4 d_M_sum_5 (by decide) (fun c1 => ?_) (fun c1 => ?_)
  · refine lv_ldc2 (v := lr_E) hx hb hown (hts _ (hT _ wm_3_124)) d_M_sum_16 ?_
    refine lv_goto (tgt := 25) hx hb d_M_sum_19 (by decide) ?_
    exact gw_lret hx hb hr hlocks hK hP hD hS (Nat.le_of_ble_eq_true rfl) (Nat.le_of_ble_eq_true rfl) d_M_sum_25 ⟨by unfold lr_plus; simp [c1], rfl⟩
  · refine lv_lload_n hx hb d_M_sum_8 rfl (lv_at hl 1 rfl) ?_
    refine lv_ldc2 (v := lr_E) hx hb hown (hts _ (hT _ wm_3_124)) d_M_sum_9 ?_
    refine gx_lne (tgt := 22) hx hb d_M_sum_12 d_M_sum_13 (by decide) (fun c2 => ?_) (fun c2 => ?_)
    · refine lv_lload_n hx hb d_M_sum_22 rfl (lv_at hl 0 rfl) ?_
      refine lv_lload_n hx hb d_M_sum_23 rfl (lv_at hl 1 rfl) ?_
      refine lv_ladd hx hb d_M_sum_24 ?_
      exact gw_lret hx hb hr hlocks hK hP hD hS (Nat.le_of_ble_eq_true rfl) (Nat.le_of_ble_eq_true rfl) d_M_sum_25 ⟨by unfold lr_plus; simp [c1, c2], rfl⟩
    · refine lv_ldc2 (v := lr_E) hx hb hown (hts _ (hT _ wm_3_124)) d_M_sum_16 ?_
      refine lv_goto (tgt := 25) hx hb d_M_sum_19 (by decide) ?_
      exact gw_lret hx hb hr hlocks hK hP hD hS (Nat.le_of_ble_eq_true rfl) (Nat.le_of_ble_eq_true rfl) d_M_sum_25 ⟨by unfold lr_plus; simp [c1, c2], rfl⟩

set_option maxHeartbeats 4000000 in
set_option maxRecDepth 100000 in
theorem c_M_isSmall {l : Launch} {D : va_G} {cJ cI cZ cS : ClassId} {ws : va_W} {sz : Nat} {x : Int64} : Met l y_M_isSmall w_M_isSmall ({ frames := 1, cells := 0, slots := 0, locals := 0 } : Room) (gw_Pc D classes (gT cJ cI cZ cS) [.long x] ws sz) (va_Qi (fun r w => ((r = nI 1 ∧ okG x) ∨ (r = nI 0 ∧ ¬ okG x)) ∧ w = ws) (gw_B D classes (gT cJ cI cZ cS) ws sz) (va_A ws sz)) 0 0 (va_A ws sz) := by
  refine gw_head (by decide) (Nat.le_of_ble_eq_true rfl) (fun p e s m below meth c hsz hx hb hr hlocks hml hown hnm hts hK hN hP hD hS hA ls hl => ?_)
  have hown : s.vm.findClass R_M = some m.cls := hown
  have hT : ∀ w ∈ wG, w ∈ Cond.code y_M_isSmall b_M_isSmall 2 (some .boolean) :: wG := gd_t _
  have hF : CallFix p m c b_M_isSmall 2 s ([.long x] : List Value).toArray (Cond.code y_M_isSmall b_M_isSmall 2 (some .boolean) :: wG) R_M := ⟨hx, hb, hml, hown, hts⟩
  have hl : lv_has ls 2 [(0, .long x)] := hl
  refine lv_lload_n hx hb d_M_isSmall_0 rfl (lv_at hl 0 rfl) ?_
  refine lv_ldc2 (v := (-1000000000 : Int64)) hx hb hown (hts _ (hT _ wm_3_194)) d_M_isSmall_1 ?_
  refine gx_llt (tgt := 20) hx hb d_M_isSmall_4 d_M_isSmall_5 (by decide) (fun c1 => ?_) (fun c1 => ?_)
  · refine lv_iconst (v := nI 0) hx hb d_M_isSmall_20 (by decide) ?_
    exact gw_zret hx hb hr hlocks hK hP hD hS (Nat.le_of_ble_eq_true rfl) (Nat.le_of_ble_eq_true rfl) rfl d_M_isSmall_21 ⟨Or.inr ⟨rfl, fun q => q.1 c1⟩, rfl⟩
  · refine lv_lload_n hx hb d_M_isSmall_8 rfl (lv_at hl 0 rfl) ?_
    refine lv_ldc2 (v := (1000000000 : Int64)) hx hb hown (hts _ (hT _ wm_3_195)) d_M_isSmall_9 ?_
    refine gx_lgt (tgt := 20) hx hb d_M_isSmall_12 d_M_isSmall_13 (by decide) (fun c2 => ?_) (fun c2 => ?_)
    · refine lv_iconst (v := nI 0) hx hb d_M_isSmall_20 (by decide) ?_
      exact gw_zret hx hb hr hlocks hK hP hD hS (Nat.le_of_ble_eq_true rfl) (Nat.le_of_ble_eq_true rfl) rfl d_M_isSmall_21 ⟨Or.inr ⟨rfl, fun q => Int64.not_lt.mpr q.2 c2⟩, rfl⟩
    · refine lv_iconst (v := nI 1) hx hb d_M_isSmall_16 (by decide) ?_
      refine lv_goto (tgt := 21) hx hb d_M_isSmall_17 (by decide) ?_
      exact gw_zret hx hb hr hlocks hK hP hD hS (Nat.le_of_ble_eq_true rfl) (Nat.le_of_ble_eq_true rfl) rfl d_M_isSmall_21 ⟨Or.inl ⟨rfl, ⟨c1, Int64.not_lt.mp c2⟩⟩, rfl⟩

set_option maxHeartbeats 4000000 in
set_option maxRecDepth 100000 in
theorem c_M_termOf {l : Launch} {D : va_G} {cJ cI cZ cS : ClassId} {ws : va_W} {sz : Nat} {q : Nat} (hq : q < 1000) : Met l y_M_termOf w_M_termOf ({ frames := 1, cells := 0, slots := 0, locals := 0 } : Room) (gw_Pc D classes (gT cJ cI cZ cS) [.int (nI q)] ws sz) (va_Qi (fun r w => (r = lr_term q) ∧ w = ws) (gw_B D classes (gT cJ cI cZ cS) ws sz) (va_A ws sz)) 0 0 (va_A ws sz) := by
  refine gw_head (by decide) (Nat.le_of_ble_eq_true rfl) (fun p e s m below meth c hsz hx hb hr hlocks hml hown hnm hts hK hN hP hD hS hA ls hl => ?_)
  have hown : s.vm.findClass R_M = some m.cls := hown
  have hT : ∀ w ∈ wG, w ∈ Cond.code y_M_termOf b_M_termOf 1 (some .int) :: wG := gd_t _
  have hF : CallFix p m c b_M_termOf 1 s ([.int (nI q)] : List Value).toArray (Cond.code y_M_termOf b_M_termOf 1 (some .int) :: wG) R_M := ⟨hx, hb, hml, hown, hts⟩
  have hl : lv_has ls 1 [(0, .int (nI q))] := hl
  refine lv_iload_n hx hb d_M_termOf_0 rfl (lv_at hl 0 rfl) ?_
  refine lv_iconst (v := nI 2) hx hb d_M_termOf_1 (by decide) ?_
  refine lv_irem hx hb d_M_termOf_2 (by decide) ?_
  refine gx_i (y := nI (q % 2)) (pk_rem (by omega) (by omega) (by omega)) ?_
  refine lv_if_ne (tgt := 14) hx hb d_M_termOf_3 (by decide) (fun c1 => ?_) (fun c1 => ?_)
  · have c1 : ¬ (q % 2 = 0) := fun z => c1 ((nI_eq (a := (q % 2)) (b := 0) (by omega) (by omega)).mpr z)
    refine lv_iload_n hx hb d_M_termOf_14 rfl (lv_at hl 0 rfl) ?_
    refine lv_iconst (v := nI 2) hx hb d_M_termOf_15 (by decide) ?_
    refine lv_idiv hx hb d_M_termOf_16 (by decide) ?_
    refine gx_i (y := nI (q / 2)) (pk_div (by omega) (by omega) (by omega)) ?_
    refine lv_iconst (v := nI 1) hx hb d_M_termOf_17 (by decide) ?_
    refine lv_iadd hx hb d_M_termOf_18 ?_
    refine gx_i (y := nI ((q / 2) + 1)) (nI_add _ _) ?_
    refine lv_ineg hx hb d_M_termOf_19 ?_
    exact gw_iret hx hb hr hlocks hK hP hD hS (Nat.le_of_ble_eq_true rfl) (Nat.le_of_ble_eq_true rfl) d_M_termOf_20 ⟨(if_neg c1).symm, rfl⟩
  · have c1 := (nI_eq (a := (q % 2)) (b := 0) (by omega) (by omega)).mp c1
    refine lv_iload_n hx hb d_M_termOf_6 rfl (lv_at hl 0 rfl) ?_
    refine lv_iconst (v := nI 2) hx hb d_M_termOf_7 (by decide) ?_
    refine lv_idiv hx hb d_M_termOf_8 (by decide) ?_
    refine gx_i (y := nI (q / 2)) (pk_div (by omega) (by omega) (by omega)) ?_
    refine lv_iconst (v := nI 1) hx hb d_M_termOf_9 (by decide) ?_
    refine lv_iadd hx hb d_M_termOf_10 ?_
    refine gx_i (y := nI ((q / 2) + 1)) (nI_add _ _) ?_
    refine lv_goto (tgt := 20) hx hb d_M_termOf_11 (by decide) ?_
    exact gw_iret hx hb hr hlocks hK hP hD hS (Nat.le_of_ble_eq_true rfl) (Nat.le_of_ble_eq_true rfl) d_M_termOf_20 ⟨(if_pos c1).symm, rfl⟩

set_option maxHeartbeats 4000000 in
set_option maxRecDepth 100000 in
theorem c_M_valueAt {l : Launch} {D : va_G} {cJ cI cZ cS : ClassId} {ws : va_W} {sz : Nat} {b N nm : Nat} {A : Nat → Nat} {th : Int32} {Pt : Nat → Int64} (m0 : ws[b]? = some (A 0, .inr (3, [.int th, .int (nI N), .ref (A 1), .ref (A 2), .ref (A 3), .ref (A 4), .ref (A 5), .ref (A 6), .int (nI nm), .ref (A 7), .ref (A 8), .ref (A 9), .ref (A 10)]))) (mP : ws[b + 6]? = some (A 6, .inl (cJ, 6, .inr (.inl Pt)))) (hN1 : 1 ≤ N) (hN5 : N ≤ 5) {i : Nat} (hi : i < 2 * N) : Met l y_M_valueAt w_M_valueAt ({ frames := 1, cells := 0, slots := 0, locals := 0 } : Room) (gw_Pc D classes (gT cJ cI cZ cS) [.ref (A 0), .int (nI i)] ws sz) (va_Ql (fun r w => (r = lm_val Pt i) ∧ w = ws) (gw_B D classes (gT cJ cI cZ cS) ws sz) (va_A ws sz)) 0 0 (va_A ws sz) := by
  refine gw_head (by decide) (Nat.le_of_ble_eq_true rfl) (fun p e s m below meth c hsz hx hb hr hlocks hml hown hnm hts hK hN hP hD hS hA ls hl => ?_)
  have hown : s.vm.findClass R_M = some m.cls := hown
  have hT : ∀ w ∈ wG, w ∈ Cond.code y_M_valueAt b_M_valueAt 2 (some .long) :: wG := gd_t _
  have hF : CallFix p m c b_M_valueAt 2 s ([.ref (A 0), .int (nI i)] : List Value).toArray (Cond.code y_M_valueAt b_M_valueAt 2 (some .long) :: wG) R_M := ⟨hx, hb, hml, hown, hts⟩
  have hl : lv_has ls 2 [(0, .ref (A 0)), (1, .int (nI i))] := hl
  refine lv_iload_n hx hb d_M_valueAt_0 rfl (lv_at hl 1 rfl) ?_
  refine lv_iconst (v := nI 2) hx hb d_M_valueAt_1 (by decide) ?_
  refine lv_irem hx hb d_M_valueAt_2 (by decide) ?_
  refine gx_i (y := nI (i % 2)) (pk_rem (by omega) (by omega) (by omega)) ?_
  refine lv_if_ne (tgt := 19) hx hb d_M_valueAt_3 (by decide) (fun c1 => ?_) (fun c1 => ?_)
  · have c1 : ¬ (i % 2 = 0) := fun z => c1 ((nI_eq (a := (i % 2)) (b := 0) (by omega) (by omega)).mpr z)
    refine lv_aload_n hx hb d_M_valueAt_19 rfl (lv_at hl 0 rfl) ?_
    refine gf_M_26 hF hT hK hP m0 rfl d_M_valueAt_20 ?_
    refine lv_iload_n hx hb d_M_valueAt_23 rfl (lv_at hl 1 rfl) ?_
    refine lv_iconst (v := nI 2) hx hb d_M_valueAt_24 (by decide) ?_
    refine lv_idiv hx hb d_M_valueAt_25 (by decide) ?_
    refine gx_i (y := nI (i / 2)) (pk_div (by omega) (by omega) (by omega)) ?_
    refine lv_iconst (v := nI 1) hx hb d_M_valueAt_26 (by decide) ?_
    refine lv_iadd hx hb d_M_valueAt_27 ?_
    refine gx_i (y := nI ((i / 2) + 1)) (nI_add _ _) ?_
    refine g_lald (t0 := 0) (k := (i / 2) + 1) hx hb hK hP mP rfl (by omega) (by omega) d_M_valueAt_28 ?_
    refine lv_lneg hx hb d_M_valueAt_29 ?_
    exact gw_lret hx hb hr hlocks hK hP hD hS (Nat.le_of_ble_eq_true rfl) (Nat.le_of_ble_eq_true rfl) d_M_valueAt_30 ⟨(if_neg c1).symm, rfl⟩
  · have c1 := (nI_eq (a := (i % 2)) (b := 0) (by omega) (by omega)).mp c1
    refine lv_aload_n hx hb d_M_valueAt_6 rfl (lv_at hl 0 rfl) ?_
    refine gf_M_26 hF hT hK hP m0 rfl d_M_valueAt_7 ?_
    refine lv_iload_n hx hb d_M_valueAt_10 rfl (lv_at hl 1 rfl) ?_
    refine lv_iconst (v := nI 2) hx hb d_M_valueAt_11 (by decide) ?_
    refine lv_idiv hx hb d_M_valueAt_12 (by decide) ?_
    refine gx_i (y := nI (i / 2)) (pk_div (by omega) (by omega) (by omega)) ?_
    refine lv_iconst (v := nI 1) hx hb d_M_valueAt_13 (by decide) ?_
    refine lv_iadd hx hb d_M_valueAt_14 ?_
    refine gx_i (y := nI ((i / 2) + 1)) (nI_add _ _) ?_
    refine g_lald (t0 := 0) (k := (i / 2) + 1) hx hb hK hP mP rfl (by omega) (by omega) d_M_valueAt_15 ?_
    refine lv_goto (tgt := 30) hx hb d_M_valueAt_16 (by decide) ?_
    exact gw_lret hx hb hr hlocks hK hP hD hS (Nat.le_of_ble_eq_true rfl) (Nat.le_of_ble_eq_true rfl) d_M_valueAt_30 ⟨(if_pos c1).symm, rfl⟩

set_option maxHeartbeats 4000000 in
set_option maxRecDepth 100000 in
theorem c_M_loadRows {l : Launch} {D : va_G} {cJ cI cZ cS : ClassId} {ws : va_W} {sz : Nat} {b N nm : Nat} {A : Nat → Nat} {th : Int32} {R : Nat → Int64} {D0 : Nat → Int64} (m0 : ws[b]? = some (A 0, .inr (3, [.int th, .int (nI N), .ref (A 1), .ref (A 2), .ref (A 3), .ref (A 4), .ref (A 5), .ref (A 6), .int (nI nm), .ref (A 7), .ref (A 8), .ref (A 9), .ref (A 10)]))) (mR : ws[b + 1]? = some (A 1, .inl (cJ, 800, .inr (.inl R)))) (mD : ws[b + 3]? = some (A 3, .inl (cJ, 100, .inr (.inl D0)))) (hN1 : 1 ≤ N) (hN5 : N ≤ 5) {u : Nat} (hs8 : u < 8) : Met l y_M_loadRows w_M_loadRows ({ frames := 1, cells := 0, slots := 0, locals := 0 } : Room) (gw_Pc D classes (gT cJ cI cZ cS) [.ref (A 0), .int (nI u)] ws sz) (va_Qv (fun w => w[b + 3]? = some (A 3, .inl (cJ, 100, .inr (.inl (lm_ld2 10 (lm_ld1 R u 100 D0))))) ∧ gF (b + 3) (b + 4) ws w) (gw_B D classes (gT cJ cI cZ cS) ws sz) (va_A ws sz)) 0 0 (va_A ws sz) := by
  refine gw_head (by decide) (Nat.le_of_ble_eq_true rfl) (fun p e s m below meth c hsz hx hb hr hlocks hml hown hnm hts hK hN hP hD hS hA ls hl => ?_)
  have hown : s.vm.findClass R_M = some m.cls := hown
  have hT : ∀ w ∈ wG, w ∈ Cond.code y_M_loadRows b_M_loadRows 3 none :: wG := gd_t _
  have hF : CallFix p m c b_M_loadRows 3 s ([.ref (A 0), .int (nI u)] : List Value).toArray (Cond.code y_M_loadRows b_M_loadRows 3 none :: wG) R_M := ⟨hx, hb, hml, hown, hts⟩
  have hl : lv_has ls 3 [(0, .ref (A 0)), (1, .int (nI u))] := hl
  have hfr : gF (b + 3) (b + 4) ws ws := gF.rf
  refine lv_iconst (v := nI 0) hx hb d_M_loadRows_0 (by decide) ?_
  refine lv_istore_n (lv' := [(2, .int (nI 0)), (0, .ref (A 0)), (1, .int (nI u))]) hx hb d_M_loadRows_1 rfl hl (by decide) rfl (fun ls hl => ?_)
  have lp_2 : ∀ (dd k : Nat), k + dd = 100 → ∀ (w : va_W) (H : Heap) (locs : List Loc) (ls : Array Slot), w[b]? = some (A 0, .inr (3, [.int th, .int (nI N), .ref (A 1), .ref (A 2), .ref (A 3), .ref (A 4), .ref (A 5), .ref (A 6), .int (nI nm), .ref (A 7), .ref (A 8), .ref (A 9), .ref (A 10)])) → w[b + 1]? = some (A 1, .inl (cJ, 800, .inr (.inl R))) → w[b + 3]? = some (A 3, .inl (cJ, 100, .inr (.inl (lm_ld1 R u k D0)))) → gF (b + 3) (b + 4) ws w → va_P D classes w H → va_D (va_A ws sz) w → va_S (va_A ws sz) s.heap H locs → lv_has ls 3 [(2, .int (nI k)), (0, .ref (A 0)), (1, .int (nI u))] → W p l e ({ frames := 1, cells := 0, slots := 0, locals := 0 } : Room) s m ([.ref (A 0), .int (nI u)] : List Value).toArray below meth c H locs 0 0 (MQ below (va_Qv (fun w => w[b + 3]? = some (A 3, .inl (cJ, 100, .inr (.inl (lm_ld2 10 (lm_ld1 R u 100 D0))))) ∧ gF (b + 3) (b + 4) ws w) (gw_B D classes (gT cJ cI cZ cS) ws sz) (va_A ws sz)) ([.ref (A 0), .int (nI u)] : List Value).toArray s 0 0 (va_A ws sz)) (F0 m 2 ls []) := by
    intro dd
    induction dd with
    | zero =>
      intro k e_k w H locs ls m0 mR mD hfr hP hD hS hl
      have e0_k : 100 = k := by omega
      subst e0_k
      refine lv_iload_n hx hb d_M_loadRows_2 rfl (lv_at hl 0 rfl) ?_
      refine lv_bipush (v := nI 100) hx hb d_M_loadRows_3 (by decide) ?_
      refine lv_icmp_ge (tgt := 31) hx hb d_M_loadRows_5 (by decide) (fun c1 => ?_) (fun c1 => ?_)
      · have c1 := (nI_leI (a := 100) (b := 100) (by omega) (by omega)).mp c1
        refine lv_iconst (v := nI 0) hx hb d_M_loadRows_31 (by decide) ?_
        refine lv_istore_n (lv' := [(2, .int (nI 0)), (0, .ref (A 0)), (1, .int (nI u))]) hx hb d_M_loadRows_32 rfl hl (by decide) rfl (fun ls hl => ?_)
        have lp_33 : ∀ (dd i : Nat), i + dd = 10 → ∀ (w : va_W) (H : Heap) (locs : List Loc) (ls : Array Slot), w[b]? = some (A 0, .inr (3, [.int th, .int (nI N), .ref (A 1), .ref (A 2), .ref (A 3), .ref (A 4), .ref (A 5), .ref (A 6), .int (nI nm), .ref (A 7), .ref (A 8), .ref (A 9), .ref (A 10)])) → w[b + 1]? = some (A 1, .inl (cJ, 800, .inr (.inl R))) → w[b + 3]? = some (A 3, .inl (cJ, 100, .inr (.inl (lm_ld2 i (lm_ld1 R u 100 D0))))) → gF (b + 3) (b + 4) ws w → va_P D classes w H → va_D (va_A ws sz) w → va_S (va_A ws sz) s.heap H locs → lv_has ls 3 [(2, .int (nI i)), (0, .ref (A 0)), (1, .int (nI u))] → W p l e ({ frames := 1, cells := 0, slots := 0, locals := 0 } : Room) s m ([.ref (A 0), .int (nI u)] : List Value).toArray below meth c H locs 0 0 (MQ below (va_Qv (fun w => w[b + 3]? = some (A 3, .inl (cJ, 100, .inr (.inl (lm_ld2 10 (lm_ld1 R u 100 D0))))) ∧ gF (b + 3) (b + 4) ws w) (gw_B D classes (gT cJ cI cZ cS) ws sz) (va_A ws sz)) ([.ref (A 0), .int (nI u)] : List Value).toArray s 0 0 (va_A ws sz)) (F0 m 33 ls []) := by
          intro dd
          induction dd with
          | zero =>
            intro i e_i w H locs ls m0 mR mD hfr hP hD hS hl
            have e0_i : 10 = i := by omega
            subst e0_i
            refine lv_iload_n hx hb d_M_loadRows_33 rfl (lv_at hl 0 rfl) ?_
            refine lv_bipush (v := nI 10) hx hb d_M_loadRows_34 (by decide) ?_
            refine lv_icmp_ge (tgt := 89) hx hb d_M_loadRows_36 (by decide) (fun c2 => ?_) (fun c2 => ?_)
            · have c2 := (nI_leI (a := 10) (b := 10) (by omega) (by omega)).mp c2
              exact gw_vret hx hb hr hlocks hK hP hD hS (Nat.le_of_ble_eq_true rfl) (Nat.le_of_ble_eq_true rfl) d_M_loadRows_89 ⟨mD, hfr⟩
            · have c2 : ¬ (10 ≤ 10) := fun z => c2 ((nI_leI (a := 10) (b := 10) (by omega) (by omega)).mpr z)
              exfalso; omega
          | succ dd ih_33 =>
            intro i e_i w H locs ls m0 mR mD hfr hP hD hS hl
            refine lv_iload_n hx hb d_M_loadRows_33 rfl (lv_at hl 0 rfl) ?_
            refine lv_bipush (v := nI 10) hx hb d_M_loadRows_34 (by decide) ?_
            refine lv_icmp_ge (tgt := 89) hx hb d_M_loadRows_36 (by decide) (fun c3 => ?_) (fun c3 => ?_)
            · have c3 := (nI_leI (a := 10) (b := i) (by omega) (by omega)).mp c3
              exfalso; omega
            · have c3 : ¬ (10 ≤ i) := fun z => c3 ((nI_leI (a := 10) (b := i) (by omega) (by omega)).mpr z)
              refine lv_aload_n hx hb d_M_loadRows_39 rfl (lv_at hl 1 rfl) ?_
              refine gf_M_17 hF hT hK hP m0 rfl d_M_loadRows_40 ?_
              refine lv_bipush (v := nI 11) hx hb d_M_loadRows_43 (by decide) ?_
              refine lv_iload_n hx hb d_M_loadRows_45 rfl (lv_at hl 0 rfl) ?_
              refine lv_imul hx hb d_M_loadRows_46 ?_
              refine gx_i (y := nI (11 * i)) (pk_mul _ _) ?_
              have mg_82 : ∀ (H : Heap) (locs : List Loc), va_P D classes w H → va_D (va_A ws sz) w → va_S (va_A ws sz) s.heap H locs → W p l e ({ frames := 1, cells := 0, slots := 0, locals := 0 } : Room) s m ([.ref (A 0), .int (nI u)] : List Value).toArray below meth c H locs 0 0 (MQ below (va_Qv (fun w => w[b + 3]? = some (A 3, .inl (cJ, 100, .inr (.inl (lm_ld2 10 (lm_ld1 R u 100 D0))))) ∧ gF (b + 3) (b + 4) ws w) (gw_B D classes (gT cJ cI cZ cS) ws sz) (va_A ws sz)) ([.ref (A 0), .int (nI u)] : List Value).toArray s 0 0 (va_A ws sz)) (F0 m 82 ls [.long (lm_dbl ((lm_ld2 i (lm_ld1 R u 100 D0)) (11 * i))), .int (nI (11 * i)), .ref (A 3)]) := by
                intro H locs hP hD hS
                refine g_last (t0 := 0) (k := 11 * i) hx hb hK hP hD hS mD rfl (by omega) (by omega) d_M_loadRows_82 (fun w H locs mD hf hP hD hS => ?_)
                have m0 := hf.at m0 (by omega)
                have mR := hf.at mR (by omega)
                have hfr := hfr.in hf (by omega) (by omega)
                refine lv_iinc (v := nI (i + 1)) (lv' := [(2, .int (nI (i + 1))), (0, .ref (A 0)), (1, .int (nI u))]) hx hb d_M_loadRows_83 hl (k := 0) rfl (gx_inc _) (by decide) rfl (fun ls hl => ?_)
                refine lv_goto (tgt := 33) hx hb d_M_loadRows_86 (by decide) ?_
                exact ih_33 (i + 1) (by omega) _ _ _ _ m0 mR mD hfr hP hD hS (lv_sub hl [0, 1, 2] rfl)
              refine lv_aload_n hx hb d_M_loadRows_47 rfl (lv_at hl 1 rfl) ?_
              refine gf_M_17 hF hT hK hP m0 rfl d_M_loadRows_48 ?_
              refine lv_bipush (v := nI 11) hx hb d_M_loadRows_51 (by decide) ?_
              refine lv_iload_n hx hb d_M_loadRows_53 rfl (lv_at hl 0 rfl) ?_
              refine lv_imul hx hb d_M_loadRows_54 ?_
              refine gx_i (y := nI (11 * i)) (pk_mul _ _) ?_
              refine g_lald (t0 := 0) (k := 11 * i) hx hb hK hP mD rfl (by omega) (by omega) d_M_loadRows_55 ?_
              refine lv_ldc2 (v := lr_E) hx hb hown (hts _ (hT _ wm_3_124)) d_M_loadRows_56 ?_
              refine gx_lne (tgt := 69) hx hb d_M_loadRows_59 d_M_loadRows_60 (by decide) (fun c4 => ?_) (fun c4 => ?_)
              · refine lv_ldc2 (v := (2 : Int64)) hx hb hown (hts _ (hT _ wm_3_202)) d_M_loadRows_69 ?_
                refine lv_aload_n hx hb d_M_loadRows_72 rfl (lv_at hl 1 rfl) ?_
                refine gf_M_17 hF hT hK hP m0 rfl d_M_loadRows_73 ?_
                refine lv_bipush (v := nI 11) hx hb d_M_loadRows_76 (by decide) ?_
                refine lv_iload_n hx hb d_M_loadRows_78 rfl (lv_at hl 0 rfl) ?_
                refine lv_imul hx hb d_M_loadRows_79 ?_
                refine gx_i (y := nI (11 * i)) (pk_mul _ _) ?_
                refine g_lald (t0 := 0) (k := 11 * i) hx hb hK hP mD rfl (by omega) (by omega) d_M_loadRows_80 ?_
                refine lv_lmul hx hb d_M_loadRows_81 ?_
                exact gx_l (y := lm_dbl ((lm_ld2 i (lm_ld1 R u 100 D0)) (11 * i))) (by unfold lm_dbl; simp [c4]) (mg_82 _ _ hP hD hS)
              · refine lv_ldc2 (v := lr_E) hx hb hown (hts _ (hT _ wm_3_124)) d_M_loadRows_63 ?_
                refine lv_goto (tgt := 82) hx hb d_M_loadRows_66 (by decide) ?_
                exact gx_l (y := lm_dbl ((lm_ld2 i (lm_ld1 R u 100 D0)) (11 * i))) (by unfold lm_dbl; simp [c4]) (mg_82 _ _ hP hD hS)
        exact lp_33 10 0 (by omega) _ _ _ _ m0 mR mD hfr hP hD hS (lv_sub hl [0, 1, 2] rfl)
      · have c1 : ¬ (100 ≤ 100) := fun z => c1 ((nI_leI (a := 100) (b := 100) (by omega) (by omega)).mpr z)
        exfalso; omega
    | succ dd ih_2 =>
      intro k e_k w H locs ls m0 mR mD hfr hP hD hS hl
      refine lv_iload_n hx hb d_M_loadRows_2 rfl (lv_at hl 0 rfl) ?_
      refine lv_bipush (v := nI 100) hx hb d_M_loadRows_3 (by decide) ?_
      refine lv_icmp_ge (tgt := 31) hx hb d_M_loadRows_5 (by decide) (fun c5 => ?_) (fun c5 => ?_)
      · have c5 := (nI_leI (a := 100) (b := k) (by omega) (by omega)).mp c5
        exfalso; omega
      · have c5 : ¬ (100 ≤ k) := fun z => c5 ((nI_leI (a := 100) (b := k) (by omega) (by omega)).mpr z)
        refine lv_aload_n hx hb d_M_loadRows_8 rfl (lv_at hl 1 rfl) ?_
        refine gf_M_17 hF hT hK hP m0 rfl d_M_loadRows_9 ?_
        refine lv_iload_n hx hb d_M_loadRows_12 rfl (lv_at hl 0 rfl) ?_
        refine lv_aload_n hx hb d_M_loadRows_13 rfl (lv_at hl 1 rfl) ?_
        refine gf_M_7 hF hT hK hP m0 rfl d_M_loadRows_14 ?_
        refine lv_bipush (v := nI 100) hx hb d_M_loadRows_17 (by decide) ?_
        refine lv_iload_n hx hb d_M_loadRows_19 rfl (lv_at hl 2 rfl) ?_
        refine lv_imul hx hb d_M_loadRows_20 ?_
        refine gx_i (y := nI (100 * u)) (pk_mul _ _) ?_
        refine lv_iload_n hx hb d_M_loadRows_21 rfl (lv_at hl 0 rfl) ?_
        refine lv_iadd hx hb d_M_loadRows_22 ?_
        refine gx_i (y := nI ((100 * u) + k)) (nI_add _ _) ?_
        refine g_lald (t0 := 0) (k := (100 * u) + k) hx hb hK hP mR rfl (by omega) (by omega) d_M_loadRows_23 ?_
        refine g_last (t0 := 0) (k := k) hx hb hK hP hD hS mD rfl (by omega) (by omega) d_M_loadRows_24 (fun w H locs mD hf hP hD hS => ?_)
        have m0 := hf.at m0 (by omega)
        have mR := hf.at mR (by omega)
        have hfr := hfr.in hf (by omega) (by omega)
        refine lv_iinc (v := nI (k + 1)) (lv' := [(2, .int (nI (k + 1))), (0, .ref (A 0)), (1, .int (nI u))]) hx hb d_M_loadRows_25 hl (k := 0) rfl (gx_inc _) (by decide) rfl (fun ls hl => ?_)
        refine lv_goto (tgt := 2) hx hb d_M_loadRows_28 (by decide) ?_
        exact ih_2 (k + 1) (by omega) _ _ _ _ m0 mR mD hfr hP hD hS (lv_sub hl [0, 1, 2] rfl)
  exact lp_2 100 0 (by omega) _ _ _ _ m0 mR mD hfr hP hD hS (lv_sub hl [0, 1, 2] rfl)

set_option maxHeartbeats 4000000 in
set_option maxRecDepth 100000 in
theorem c_M_none {l : Launch} {D : va_G} {cJ cI cZ cS : ClassId} {ws : va_W} {sz : Nat} {b N nm : Nat} {A : Nat → Nat} {th : Int32} {R : Nat → Int64} {Em : Nat → Int32} (m0 : ws[b]? = some (A 0, .inr (3, [.int th, .int (nI N), .ref (A 1), .ref (A 2), .ref (A 3), .ref (A 4), .ref (A 5), .ref (A 6), .int (nI nm), .ref (A 7), .ref (A 8), .ref (A 9), .ref (A 10)]))) (mR : ws[b + 1]? = some (A 1, .inl (cJ, 800, .inr (.inl R)))) (mE : ws[b + 2]? = some (A 2, .inl (cZ, 8, .inl Em))) (hN1 : 1 ≤ N) (hN5 : N ≤ 5) {u : Nat} (hs8 : u < 8) : Met l y_M_none w_M_none ({ frames := 1, cells := 0, slots := 0, locals := 0 } : Room) (gw_Pc D classes (gT cJ cI cZ cS) [.ref (A 0), .int (nI u)] ws sz) (va_Qv (fun w => (w[b + 1]? = some (A 1, .inl (cJ, 800, .inr (.inl (lm_none R u)))) ∧ w[b + 2]? = some (A 2, .inl (cZ, 8, .inl (upd Em u (nI 1))))) ∧ gF (b + 1) (b + 3) ws w) (gw_B D classes (gT cJ cI cZ cS) ws sz) (va_A ws sz)) 0 0 (va_A ws sz) := by
  refine gw_head (by decide) (Nat.le_of_ble_eq_true rfl) (fun p e s m below meth c hsz hx hb hr hlocks hml hown hnm hts hK hN hP hD hS hA ls hl => ?_)
  have hown : s.vm.findClass R_M = some m.cls := hown
  have hT : ∀ w ∈ wG, w ∈ Cond.code y_M_none b_M_none 3 none :: wG := gd_t _
  have hF : CallFix p m c b_M_none 3 s ([.ref (A 0), .int (nI u)] : List Value).toArray (Cond.code y_M_none b_M_none 3 none :: wG) R_M := ⟨hx, hb, hml, hown, hts⟩
  have hl : lv_has ls 3 [(0, .ref (A 0)), (1, .int (nI u))] := hl
  have hfr : gF (b + 1) (b + 3) ws ws := gF.rf
  refine lv_iconst (v := nI 0) hx hb d_M_none_0 (by decide) ?_
  refine lv_istore_n (lv' := [(2, .int (nI 0)), (0, .ref (A 0)), (1, .int (nI u))]) hx hb d_M_none_1 rfl hl (by decide) rfl (fun ls hl => ?_)
  have lp_2 : ∀ (dd k : Nat), k + dd = 100 → ∀ (w : va_W) (H : Heap) (locs : List Loc) (ls : Array Slot), w[b]? = some (A 0, .inr (3, [.int th, .int (nI N), .ref (A 1), .ref (A 2), .ref (A 3), .ref (A 4), .ref (A 5), .ref (A 6), .int (nI nm), .ref (A 7), .ref (A 8), .ref (A 9), .ref (A 10)])) → w[b + 1]? = some (A 1, .inl (cJ, 800, .inr (.inl (lr_it (fun k R => vp_updL R (100 * u + k) lr_E) k R)))) → w[b + 2]? = some (A 2, .inl (cZ, 8, .inl Em)) → gF (b + 1) (b + 3) ws w → va_P D classes w H → va_D (va_A ws sz) w → va_S (va_A ws sz) s.heap H locs → lv_has ls 3 [(2, .int (nI k)), (0, .ref (A 0)), (1, .int (nI u))] → W p l e ({ frames := 1, cells := 0, slots := 0, locals := 0 } : Room) s m ([.ref (A 0), .int (nI u)] : List Value).toArray below meth c H locs 0 0 (MQ below (va_Qv (fun w => (w[b + 1]? = some (A 1, .inl (cJ, 800, .inr (.inl (lm_none R u)))) ∧ w[b + 2]? = some (A 2, .inl (cZ, 8, .inl (upd Em u (nI 1))))) ∧ gF (b + 1) (b + 3) ws w) (gw_B D classes (gT cJ cI cZ cS) ws sz) (va_A ws sz)) ([.ref (A 0), .int (nI u)] : List Value).toArray s 0 0 (va_A ws sz)) (F0 m 2 ls []) := by
    intro dd
    induction dd with
    | zero =>
      intro k e_k w H locs ls m0 mR mE hfr hP hD hS hl
      have e0_k : 100 = k := by omega
      subst e0_k
      refine lv_iload_n hx hb d_M_none_2 rfl (lv_at hl 0 rfl) ?_
      refine lv_bipush (v := nI 100) hx hb d_M_none_3 (by decide) ?_
      refine lv_icmp_ge (tgt := 28) hx hb d_M_none_5 (by decide) (fun c1 => ?_) (fun c1 => ?_)
      · have c1 := (nI_leI (a := 100) (b := 100) (by omega) (by omega)).mp c1
        refine lv_aload_n hx hb d_M_none_28 rfl (lv_at hl 1 rfl) ?_
        refine gf_M_13 hF hT hK hP m0 rfl d_M_none_29 ?_
        refine lv_iload_n hx hb d_M_none_32 rfl (lv_at hl 2 rfl) ?_
        refine lv_iconst (v := nI 1) hx hb d_M_none_33 (by decide) ?_
        refine g_zast (t0 := 2) (k := u) hx hb hK hP hD hS mE rfl (by omega) (by omega) (Or.inr rfl) d_M_none_34 (fun w H locs mE hf hP hD hS => ?_)
        have m0 := hf.at m0 (by omega)
        have mR := hf.at mR (by omega)
        have hfr := hfr.in hf (by omega) (by omega)
        exact gw_vret hx hb hr hlocks hK hP hD hS (Nat.le_of_ble_eq_true rfl) (Nat.le_of_ble_eq_true rfl) d_M_none_35 ⟨⟨mR, mE⟩, hfr⟩
      · have c1 : ¬ (100 ≤ 100) := fun z => c1 ((nI_leI (a := 100) (b := 100) (by omega) (by omega)).mpr z)
        exfalso; omega
    | succ dd ih_2 =>
      intro k e_k w H locs ls m0 mR mE hfr hP hD hS hl
      refine lv_iload_n hx hb d_M_none_2 rfl (lv_at hl 0 rfl) ?_
      refine lv_bipush (v := nI 100) hx hb d_M_none_3 (by decide) ?_
      refine lv_icmp_ge (tgt := 28) hx hb d_M_none_5 (by decide) (fun c2 => ?_) (fun c2 => ?_)
      · have c2 := (nI_leI (a := 100) (b := k) (by omega) (by omega)).mp c2
        exfalso; omega
      · have c2 : ¬ (100 ≤ k) := fun z => c2 ((nI_leI (a := 100) (b := k) (by omega) (by omega)).mpr z)
        refine lv_aload_n hx hb d_M_none_8 rfl (lv_at hl 1 rfl) ?_
        refine gf_M_7 hF hT hK hP m0 rfl d_M_none_9 ?_
        refine lv_bipush (v := nI 100) hx hb d_M_none_12 (by decide) ?_
        refine lv_iload_n hx hb d_M_none_14 rfl (lv_at hl 2 rfl) ?_
        refine lv_imul hx hb d_M_none_15 ?_
        refine gx_i (y := nI (100 * u)) (pk_mul _ _) ?_
        refine lv_iload_n hx hb d_M_none_16 rfl (lv_at hl 0 rfl) ?_
        refine lv_iadd hx hb d_M_none_17 ?_
        refine gx_i (y := nI ((100 * u) + k)) (nI_add _ _) ?_
        refine lv_ldc2 (v := lr_E) hx hb hown (hts _ (hT _ wm_3_124)) d_M_none_18 ?_
        refine g_last (t0 := 0) (k := (100 * u) + k) hx hb hK hP hD hS mR rfl (by omega) (by omega) d_M_none_21 (fun w H locs mR hf hP hD hS => ?_)
        have m0 := hf.at m0 (by omega)
        have mE := hf.at mE (by omega)
        have hfr := hfr.in hf (by omega) (by omega)
        refine lv_iinc (v := nI (k + 1)) (lv' := [(2, .int (nI (k + 1))), (0, .ref (A 0)), (1, .int (nI u))]) hx hb d_M_none_22 hl (k := 0) rfl (gx_inc _) (by decide) rfl (fun ls hl => ?_)
        refine lv_goto (tgt := 2) hx hb d_M_none_25 (by decide) ?_
        exact ih_2 (k + 1) (by omega) _ _ _ _ m0 mR mE hfr hP hD hS (lv_sub hl [0, 1, 2] rfl)
  exact lp_2 100 0 (by omega) _ _ _ _ m0 mR mE hfr hP hD hS (lv_sub hl [0, 1, 2] rfl)

set_option maxHeartbeats 4000000 in
set_option maxRecDepth 100000 in
theorem c_M_copyRows {l : Launch} {D : va_G} {cJ cI cZ cS : ClassId} {ws : va_W} {sz : Nat} {b N nm : Nat} {A : Nat → Nat} {th : Int32} {R : Nat → Int64} {Em : Nat → Int32} (m0 : ws[b]? = some (A 0, .inr (3, [.int th, .int (nI N), .ref (A 1), .ref (A 2), .ref (A 3), .ref (A 4), .ref (A 5), .ref (A 6), .int (nI nm), .ref (A 7), .ref (A 8), .ref (A 9), .ref (A 10)]))) (mR : ws[b + 1]? = some (A 1, .inl (cJ, 800, .inr (.inl R)))) (mE : ws[b + 2]? = some (A 2, .inl (cZ, 8, .inl Em))) (hN1 : 1 ≤ N) (hN5 : N ≤ 5) {t u : Nat} (ht8 : t < 8) (hs8 : u < 8) (hE : ∀ k, k < 8 → Em k = 0 ∨ Em k = 1) : Met l y_M_copyRows w_M_copyRows ({ frames := 1, cells := 0, slots := 0, locals := 0 } : Room) (gw_Pc D classes (gT cJ cI cZ cS) [.ref (A 0), .int (nI t), .int (nI u)] ws sz) (va_Qv (fun w => (w[b + 1]? = some (A 1, .inl (cJ, 800, .inr (.inl (lm_cpR R t u)))) ∧ w[b + 2]? = some (A 2, .inl (cZ, 8, .inl (upd Em t (Em u))))) ∧ gF (b + 1) (b + 3) ws w) (gw_B D classes (gT cJ cI cZ cS) ws sz) (va_A ws sz)) 0 0 (va_A ws sz) := by
  refine gw_head (by decide) (Nat.le_of_ble_eq_true rfl) (fun p e s m below meth c hsz hx hb hr hlocks hml hown hnm hts hK hN hP hD hS hA ls hl => ?_)
  have hown : s.vm.findClass R_M = some m.cls := hown
  have hT : ∀ w ∈ wG, w ∈ Cond.code y_M_copyRows b_M_copyRows 4 none :: wG := gd_t _
  have hF : CallFix p m c b_M_copyRows 4 s ([.ref (A 0), .int (nI t), .int (nI u)] : List Value).toArray (Cond.code y_M_copyRows b_M_copyRows 4 none :: wG) R_M := ⟨hx, hb, hml, hown, hts⟩
  have hl : lv_has ls 4 [(0, .ref (A 0)), (1, .int (nI t)), (2, .int (nI u))] := hl
  have hfr : gF (b + 1) (b + 3) ws ws := gF.rf
  refine lv_iconst (v := nI 0) hx hb d_M_copyRows_0 (by decide) ?_
  refine lv_istore_n (lv' := [(3, .int (nI 0)), (0, .ref (A 0)), (1, .int (nI t)), (2, .int (nI u))]) hx hb d_M_copyRows_1 rfl hl (by decide) rfl (fun ls hl => ?_)
  have lp_2 : ∀ (dd k : Nat), k + dd = 100 → ∀ (w : va_W) (H : Heap) (locs : List Loc) (ls : Array Slot), w[b]? = some (A 0, .inr (3, [.int th, .int (nI N), .ref (A 1), .ref (A 2), .ref (A 3), .ref (A 4), .ref (A 5), .ref (A 6), .int (nI nm), .ref (A 7), .ref (A 8), .ref (A 9), .ref (A 10)])) → w[b + 1]? = some (A 1, .inl (cJ, 800, .inr (.inl (lr_it (fun k R => vp_updL R (100 * t + k) (R (100 * u + k))) k R)))) → w[b + 2]? = some (A 2, .inl (cZ, 8, .inl Em)) → gF (b + 1) (b + 3) ws w → va_P D classes w H → va_D (va_A ws sz) w → va_S (va_A ws sz) s.heap H locs → lv_has ls 4 [(3, .int (nI k)), (0, .ref (A 0)), (1, .int (nI t)), (2, .int (nI u))] → W p l e ({ frames := 1, cells := 0, slots := 0, locals := 0 } : Room) s m ([.ref (A 0), .int (nI t), .int (nI u)] : List Value).toArray below meth c H locs 0 0 (MQ below (va_Qv (fun w => (w[b + 1]? = some (A 1, .inl (cJ, 800, .inr (.inl (lm_cpR R t u)))) ∧ w[b + 2]? = some (A 2, .inl (cZ, 8, .inl (upd Em t (Em u))))) ∧ gF (b + 1) (b + 3) ws w) (gw_B D classes (gT cJ cI cZ cS) ws sz) (va_A ws sz)) ([.ref (A 0), .int (nI t), .int (nI u)] : List Value).toArray s 0 0 (va_A ws sz)) (F0 m 2 ls []) := by
    intro dd
    induction dd with
    | zero =>
      intro k e_k w H locs ls m0 mR mE hfr hP hD hS hl
      have e0_k : 100 = k := by omega
      subst e0_k
      refine lv_iload_n hx hb d_M_copyRows_2 rfl (lv_at hl 0 rfl) ?_
      refine lv_bipush (v := nI 100) hx hb d_M_copyRows_3 (by decide) ?_
      refine lv_icmp_ge (tgt := 36) hx hb d_M_copyRows_5 (by decide) (fun c1 => ?_) (fun c1 => ?_)
      · have c1 := (nI_leI (a := 100) (b := 100) (by omega) (by omega)).mp c1
        refine lv_aload_n hx hb d_M_copyRows_36 rfl (lv_at hl 1 rfl) ?_
        refine gf_M_13 hF hT hK hP m0 rfl d_M_copyRows_37 ?_
        refine lv_iload_n hx hb d_M_copyRows_40 rfl (lv_at hl 2 rfl) ?_
        refine lv_aload_n hx hb d_M_copyRows_41 rfl (lv_at hl 1 rfl) ?_
        refine gf_M_13 hF hT hK hP m0 rfl d_M_copyRows_42 ?_
        refine lv_iload_n hx hb d_M_copyRows_45 rfl (lv_at hl 3 rfl) ?_
        refine g_zald (t0 := 2) (k := u) hx hb hK hP mE rfl (by omega) (by omega) d_M_copyRows_46 ?_
        refine g_zast (t0 := 2) (k := t) hx hb hK hP hD hS mE rfl (by omega) (by omega) (hE u hs8) d_M_copyRows_47 (fun w H locs mE hf hP hD hS => ?_)
        have m0 := hf.at m0 (by omega)
        have mR := hf.at mR (by omega)
        have hfr := hfr.in hf (by omega) (by omega)
        exact gw_vret hx hb hr hlocks hK hP hD hS (Nat.le_of_ble_eq_true rfl) (Nat.le_of_ble_eq_true rfl) d_M_copyRows_48 ⟨⟨mR, mE⟩, hfr⟩
      · have c1 : ¬ (100 ≤ 100) := fun z => c1 ((nI_leI (a := 100) (b := 100) (by omega) (by omega)).mpr z)
        exfalso; omega
    | succ dd ih_2 =>
      intro k e_k w H locs ls m0 mR mE hfr hP hD hS hl
      refine lv_iload_n hx hb d_M_copyRows_2 rfl (lv_at hl 0 rfl) ?_
      refine lv_bipush (v := nI 100) hx hb d_M_copyRows_3 (by decide) ?_
      refine lv_icmp_ge (tgt := 36) hx hb d_M_copyRows_5 (by decide) (fun c2 => ?_) (fun c2 => ?_)
      · have c2 := (nI_leI (a := 100) (b := k) (by omega) (by omega)).mp c2
        exfalso; omega
      · have c2 : ¬ (100 ≤ k) := fun z => c2 ((nI_leI (a := 100) (b := k) (by omega) (by omega)).mpr z)
        refine lv_aload_n hx hb d_M_copyRows_8 rfl (lv_at hl 1 rfl) ?_
        refine gf_M_7 hF hT hK hP m0 rfl d_M_copyRows_9 ?_
        refine lv_bipush (v := nI 100) hx hb d_M_copyRows_12 (by decide) ?_
        refine lv_iload_n hx hb d_M_copyRows_14 rfl (lv_at hl 2 rfl) ?_
        refine lv_imul hx hb d_M_copyRows_15 ?_
        refine gx_i (y := nI (100 * t)) (pk_mul _ _) ?_
        refine lv_iload_n hx hb d_M_copyRows_16 rfl (lv_at hl 0 rfl) ?_
        refine lv_iadd hx hb d_M_copyRows_17 ?_
        refine gx_i (y := nI ((100 * t) + k)) (nI_add _ _) ?_
        refine lv_aload_n hx hb d_M_copyRows_18 rfl (lv_at hl 1 rfl) ?_
        refine gf_M_7 hF hT hK hP m0 rfl d_M_copyRows_19 ?_
        refine lv_bipush (v := nI 100) hx hb d_M_copyRows_22 (by decide) ?_
        refine lv_iload_n hx hb d_M_copyRows_24 rfl (lv_at hl 3 rfl) ?_
        refine lv_imul hx hb d_M_copyRows_25 ?_
        refine gx_i (y := nI (100 * u)) (pk_mul _ _) ?_
        refine lv_iload_n hx hb d_M_copyRows_26 rfl (lv_at hl 0 rfl) ?_
        refine lv_iadd hx hb d_M_copyRows_27 ?_
        refine gx_i (y := nI ((100 * u) + k)) (nI_add _ _) ?_
        refine g_lald (t0 := 0) (k := (100 * u) + k) hx hb hK hP mR rfl (by omega) (by omega) d_M_copyRows_28 ?_
        refine g_last (t0 := 0) (k := (100 * t) + k) hx hb hK hP hD hS mR rfl (by omega) (by omega) d_M_copyRows_29 (fun w H locs mR hf hP hD hS => ?_)
        have m0 := hf.at m0 (by omega)
        have mE := hf.at mE (by omega)
        have hfr := hfr.in hf (by omega) (by omega)
        refine lv_iinc (v := nI (k + 1)) (lv' := [(3, .int (nI (k + 1))), (0, .ref (A 0)), (1, .int (nI t)), (2, .int (nI u))]) hx hb d_M_copyRows_30 hl (k := 0) rfl (gx_inc _) (by decide) rfl (fun ls hl => ?_)
        refine lv_goto (tgt := 2) hx hb d_M_copyRows_33 (by decide) ?_
        exact ih_2 (k + 1) (by omega) _ _ _ _ m0 mR mE hfr hP hD hS (lv_sub hl [0, 1, 2, 3] rfl)
  exact lp_2 100 0 (by omega) _ _ _ _ m0 mR mE hfr hP hD hS (lv_sub hl [0, 1, 2, 3] rfl)

set_option maxHeartbeats 4000000 in
set_option maxRecDepth 100000 in
theorem c_M_copyTable {l : Launch} {D : va_G} {cJ cI cZ cS : ClassId} {ws : va_W} {sz : Nat} {b N nm : Nat} {A : Nat → Nat} {th : Int32} {D0 : Nat → Int64} {O : Nat → Int64} (m0 : ws[b]? = some (A 0, .inr (3, [.int th, .int (nI N), .ref (A 1), .ref (A 2), .ref (A 3), .ref (A 4), .ref (A 5), .ref (A 6), .int (nI nm), .ref (A 7), .ref (A 8), .ref (A 9), .ref (A 10)]))) (mD : ws[b + 3]? = some (A 3, .inl (cJ, 100, .inr (.inl D0)))) (mO : ws[b + 4]? = some (A 4, .inl (cJ, 100, .inr (.inl O)))) (hN1 : 1 ≤ N) (hN5 : N ≤ 5) {z : Int32} : Met l y_M_copyTable w_M_copyTable ({ frames := 1, cells := 0, slots := 0, locals := 0 } : Room) (gw_Pc D classes (gT cJ cI cZ cS) [.ref (A 0), .int z] ws sz) (va_Qv (fun w => ((¬ z = 0 ∧ w[b + 3]? = some (A 3, .inl (cJ, 100, .inr (.inl D0))) ∧ w[b + 4]? = some (A 4, .inl (cJ, 100, .inr (.inl (lm_cp D0 O))))) ∨ (z = 0 ∧ w[b + 3]? = some (A 3, .inl (cJ, 100, .inr (.inl (lm_cp O D0)))) ∧ w[b + 4]? = some (A 4, .inl (cJ, 100, .inr (.inl O))))) ∧ gF (b + 3) (b + 5) ws w) (gw_B D classes (gT cJ cI cZ cS) ws sz) (va_A ws sz)) 0 0 (va_A ws sz) := by
  refine gw_head (by decide) (Nat.le_of_ble_eq_true rfl) (fun p e s m below meth c hsz hx hb hr hlocks hml hown hnm hts hK hN hP hD hS hA ls hl => ?_)
  have hown : s.vm.findClass R_M = some m.cls := hown
  have hT : ∀ w ∈ wG, w ∈ Cond.code y_M_copyTable b_M_copyTable 3 none :: wG := gd_t _
  have hF : CallFix p m c b_M_copyTable 3 s ([.ref (A 0), .int z] : List Value).toArray (Cond.code y_M_copyTable b_M_copyTable 3 none :: wG) R_M := ⟨hx, hb, hml, hown, hts⟩
  have hl : lv_has ls 3 [(0, .ref (A 0)), (1, .int z)] := hl
  have hfr : gF (b + 3) (b + 5) ws ws := gF.rf
  by_cases c1 : z = 0
  · refine lv_iconst (v := nI 0) hx hb d_M_copyTable_0 (by decide) ?_
    refine lv_istore_n (lv' := [(2, .int (nI 0)), (0, .ref (A 0)), (1, .int z)]) hx hb d_M_copyTable_1 rfl hl (by decide) rfl (fun ls hl => ?_)
    have lp_2 : ∀ (dd k : Nat), k + dd = 100 → ∀ (w : va_W) (H : Heap) (locs : List Loc) (ls : Array Slot), w[b]? = some (A 0, .inr (3, [.int th, .int (nI N), .ref (A 1), .ref (A 2), .ref (A 3), .ref (A 4), .ref (A 5), .ref (A 6), .int (nI nm), .ref (A 7), .ref (A 8), .ref (A 9), .ref (A 10)])) → w[b + 3]? = some (A 3, .inl (cJ, 100, .inr (.inl (lr_it (fun k D => vp_updL D k (O k)) k D0)))) → w[b + 4]? = some (A 4, .inl (cJ, 100, .inr (.inl O))) → gF (b + 3) (b + 5) ws w → va_P D classes w H → va_D (va_A ws sz) w → va_S (va_A ws sz) s.heap H locs → lv_has ls 3 [(2, .int (nI k)), (0, .ref (A 0)), (1, .int z)] → W p l e ({ frames := 1, cells := 0, slots := 0, locals := 0 } : Room) s m ([.ref (A 0), .int z] : List Value).toArray below meth c H locs 0 0 (MQ below (va_Qv (fun w => ((¬ z = 0 ∧ w[b + 3]? = some (A 3, .inl (cJ, 100, .inr (.inl D0))) ∧ w[b + 4]? = some (A 4, .inl (cJ, 100, .inr (.inl (lm_cp D0 O))))) ∨ (z = 0 ∧ w[b + 3]? = some (A 3, .inl (cJ, 100, .inr (.inl (lm_cp O D0)))) ∧ w[b + 4]? = some (A 4, .inl (cJ, 100, .inr (.inl O))))) ∧ gF (b + 3) (b + 5) ws w) (gw_B D classes (gT cJ cI cZ cS) ws sz) (va_A ws sz)) ([.ref (A 0), .int z] : List Value).toArray s 0 0 (va_A ws sz)) (F0 m 2 ls []) := by
      intro dd
      induction dd with
      | zero =>
        intro k e_k w H locs ls m0 mD mO hfr hP hD hS hl
        have e0_k : 100 = k := by omega
        subst e0_k
        refine lv_iload_n hx hb d_M_copyTable_2 rfl (lv_at hl 0 rfl) ?_
        refine lv_bipush (v := nI 100) hx hb d_M_copyTable_3 (by decide) ?_
        refine lv_icmp_ge (tgt := 45) hx hb d_M_copyTable_5 (by decide) (fun c2 => ?_) (fun c2 => ?_)
        · have c2 := (nI_leI (a := 100) (b := 100) (by omega) (by omega)).mp c2
          exact gw_vret hx hb hr hlocks hK hP hD hS (Nat.le_of_ble_eq_true rfl) (Nat.le_of_ble_eq_true rfl) d_M_copyTable_45 ⟨Or.inr ⟨c1, mD, mO⟩, hfr⟩
        · have c2 : ¬ (100 ≤ 100) := fun z => c2 ((nI_leI (a := 100) (b := 100) (by omega) (by omega)).mpr z)
          exfalso; omega
      | succ dd ih_2 =>
        intro k e_k w H locs ls m0 mD mO hfr hP hD hS hl
        refine lv_iload_n hx hb d_M_copyTable_2 rfl (lv_at hl 0 rfl) ?_
        refine lv_bipush (v := nI 100) hx hb d_M_copyTable_3 (by decide) ?_
        refine lv_icmp_ge (tgt := 45) hx hb d_M_copyTable_5 (by decide) (fun c3 => ?_) (fun c3 => ?_)
        · have c3 := (nI_leI (a := 100) (b := k) (by omega) (by omega)).mp c3
          exfalso; omega
        · have c3 : ¬ (100 ≤ k) := fun z => c3 ((nI_leI (a := 100) (b := k) (by omega) (by omega)).mpr z)
          refine lv_iload_n hx hb d_M_copyTable_8 rfl (lv_at hl 2 rfl) ?_
          refine lv_if_eq (tgt := 27) hx hb d_M_copyTable_9 (by decide) (fun c4 => ?_) (fun c4 => ?_)
          · refine lv_aload_n hx hb d_M_copyTable_27 rfl (lv_at hl 1 rfl) ?_
            refine gf_M_17 hF hT hK hP m0 rfl d_M_copyTable_28 ?_
            refine lv_iload_n hx hb d_M_copyTable_31 rfl (lv_at hl 0 rfl) ?_
            refine lv_aload_n hx hb d_M_copyTable_32 rfl (lv_at hl 1 rfl) ?_
            refine gf_M_20 hF hT hK hP m0 rfl d_M_copyTable_33 ?_
            refine lv_iload_n hx hb d_M_copyTable_36 rfl (lv_at hl 0 rfl) ?_
            refine g_lald (t0 := 0) (k := k) hx hb hK hP mO rfl (by omega) (by omega) d_M_copyTable_37 ?_
            refine g_last (t0 := 0) (k := k) hx hb hK hP hD hS mD rfl (by omega) (by omega) d_M_copyTable_38 (fun w H locs mD hf hP hD hS => ?_)
            have m0 := hf.at m0 (by omega)
            have mO := hf.at mO (by omega)
            have hfr := hfr.in hf (by omega) (by omega)
            refine lv_iinc (v := nI (k + 1)) (lv' := [(2, .int (nI (k + 1))), (0, .ref (A 0)), (1, .int z)]) hx hb d_M_copyTable_39 hl (k := 0) rfl (gx_inc _) (by decide) rfl (fun ls hl => ?_)
            refine lv_goto (tgt := 2) hx hb d_M_copyTable_42 (by decide) ?_
            exact ih_2 (k + 1) (by omega) _ _ _ _ m0 mD mO hfr hP hD hS (lv_sub hl [0, 1, 2] rfl)
          · exact absurd c1 c4
    exact lp_2 100 0 (by omega) _ _ _ _ m0 mD mO hfr hP hD hS (lv_sub hl [0, 1, 2] rfl)
  · refine lv_iconst (v := nI 0) hx hb d_M_copyTable_0 (by decide) ?_
    refine lv_istore_n (lv' := [(2, .int (nI 0)), (0, .ref (A 0)), (1, .int z)]) hx hb d_M_copyTable_1 rfl hl (by decide) rfl (fun ls hl => ?_)
    have lp_2 : ∀ (dd k : Nat), k + dd = 100 → ∀ (w : va_W) (H : Heap) (locs : List Loc) (ls : Array Slot), w[b]? = some (A 0, .inr (3, [.int th, .int (nI N), .ref (A 1), .ref (A 2), .ref (A 3), .ref (A 4), .ref (A 5), .ref (A 6), .int (nI nm), .ref (A 7), .ref (A 8), .ref (A 9), .ref (A 10)])) → w[b + 3]? = some (A 3, .inl (cJ, 100, .inr (.inl D0))) → w[b + 4]? = some (A 4, .inl (cJ, 100, .inr (.inl (lr_it (fun k O => vp_updL O k (D0 k)) k O)))) → gF (b + 3) (b + 5) ws w → va_P D classes w H → va_D (va_A ws sz) w → va_S (va_A ws sz) s.heap H locs → lv_has ls 3 [(2, .int (nI k)), (0, .ref (A 0)), (1, .int z)] → W p l e ({ frames := 1, cells := 0, slots := 0, locals := 0 } : Room) s m ([.ref (A 0), .int z] : List Value).toArray below meth c H locs 0 0 (MQ below (va_Qv (fun w => ((¬ z = 0 ∧ w[b + 3]? = some (A 3, .inl (cJ, 100, .inr (.inl D0))) ∧ w[b + 4]? = some (A 4, .inl (cJ, 100, .inr (.inl (lm_cp D0 O))))) ∨ (z = 0 ∧ w[b + 3]? = some (A 3, .inl (cJ, 100, .inr (.inl (lm_cp O D0)))) ∧ w[b + 4]? = some (A 4, .inl (cJ, 100, .inr (.inl O))))) ∧ gF (b + 3) (b + 5) ws w) (gw_B D classes (gT cJ cI cZ cS) ws sz) (va_A ws sz)) ([.ref (A 0), .int z] : List Value).toArray s 0 0 (va_A ws sz)) (F0 m 2 ls []) := by
      intro dd
      induction dd with
      | zero =>
        intro k e_k w H locs ls m0 mD mO hfr hP hD hS hl
        have e0_k : 100 = k := by omega
        subst e0_k
        refine lv_iload_n hx hb d_M_copyTable_2 rfl (lv_at hl 0 rfl) ?_
        refine lv_bipush (v := nI 100) hx hb d_M_copyTable_3 (by decide) ?_
        refine lv_icmp_ge (tgt := 45) hx hb d_M_copyTable_5 (by decide) (fun c5 => ?_) (fun c5 => ?_)
        · have c5 := (nI_leI (a := 100) (b := 100) (by omega) (by omega)).mp c5
          exact gw_vret hx hb hr hlocks hK hP hD hS (Nat.le_of_ble_eq_true rfl) (Nat.le_of_ble_eq_true rfl) d_M_copyTable_45 ⟨Or.inl ⟨c1, mD, mO⟩, hfr⟩
        · have c5 : ¬ (100 ≤ 100) := fun z => c5 ((nI_leI (a := 100) (b := 100) (by omega) (by omega)).mpr z)
          exfalso; omega
      | succ dd ih_2 =>
        intro k e_k w H locs ls m0 mD mO hfr hP hD hS hl
        refine lv_iload_n hx hb d_M_copyTable_2 rfl (lv_at hl 0 rfl) ?_
        refine lv_bipush (v := nI 100) hx hb d_M_copyTable_3 (by decide) ?_
        refine lv_icmp_ge (tgt := 45) hx hb d_M_copyTable_5 (by decide) (fun c6 => ?_) (fun c6 => ?_)
        · have c6 := (nI_leI (a := 100) (b := k) (by omega) (by omega)).mp c6
          exfalso; omega
        · have c6 : ¬ (100 ≤ k) := fun z => c6 ((nI_leI (a := 100) (b := k) (by omega) (by omega)).mpr z)
          refine lv_iload_n hx hb d_M_copyTable_8 rfl (lv_at hl 2 rfl) ?_
          refine lv_if_eq (tgt := 27) hx hb d_M_copyTable_9 (by decide) (fun c7 => ?_) (fun c7 => ?_)
          · exact absurd c7 c1
          · refine lv_aload_n hx hb d_M_copyTable_12 rfl (lv_at hl 1 rfl) ?_
            refine gf_M_20 hF hT hK hP m0 rfl d_M_copyTable_13 ?_
            refine lv_iload_n hx hb d_M_copyTable_16 rfl (lv_at hl 0 rfl) ?_
            refine lv_aload_n hx hb d_M_copyTable_17 rfl (lv_at hl 1 rfl) ?_
            refine gf_M_17 hF hT hK hP m0 rfl d_M_copyTable_18 ?_
            refine lv_iload_n hx hb d_M_copyTable_21 rfl (lv_at hl 0 rfl) ?_
            refine g_lald (t0 := 0) (k := k) hx hb hK hP mD rfl (by omega) (by omega) d_M_copyTable_22 ?_
            refine g_last (t0 := 0) (k := k) hx hb hK hP hD hS mO rfl (by omega) (by omega) d_M_copyTable_23 (fun w H locs mO hf hP hD hS => ?_)
            have m0 := hf.at m0 (by omega)
            have mD := hf.at mD (by omega)
            have hfr := hfr.in hf (by omega) (by omega)
            refine lv_goto (tgt := 39) hx hb d_M_copyTable_24 (by decide) ?_
            refine lv_iinc (v := nI (k + 1)) (lv' := [(2, .int (nI (k + 1))), (0, .ref (A 0)), (1, .int z)]) hx hb d_M_copyTable_39 hl (k := 0) rfl (gx_inc _) (by decide) rfl (fun ls hl => ?_)
            refine lv_goto (tgt := 2) hx hb d_M_copyTable_42 (by decide) ?_
            exact ih_2 (k + 1) (by omega) _ _ _ _ m0 mD mO hfr hP hD hS (lv_sub hl [0, 1, 2] rfl)
    exact lp_2 100 0 (by omega) _ _ _ _ m0 mD mO hfr hP hD hS (lv_sub hl [0, 1, 2] rfl)
