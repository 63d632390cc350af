/-! the law's helpers; written by program -/
def hb_z (r : Int32) : Int64 := if r = 0 then 0 else 1
set_option maxHeartbeats 4000000 in
set_option maxRecDepth 100000 in
theorem hc_all {l : Launch} {D : va_G} {cJ cI cZ cS : ClassId} {ws : va_W} {sz base : Nat} {b q0 bo o : Nat} {fs : List Value} {f : Nat → Int64} {x : Int32} {CP : va_W → Prop} {XP : String → va_W → Prop} (he : ws[q0]? = some (b, .inr (2, fs))) (hxp : ∀ Z w, XP Z w → Z = xIOOB) (hM : vx_Met l y_X_all w_X_all ({ frames := 7, cells := 1, slots := 6, locals := 110 } : Room) (gx_Pc D classes (gT cJ cI cZ cS) [.ref b, .int x] ws sz base) (va_Qv CP (gw_B D classes (gT cJ cI cZ cS) ws sz) (va_A ws sz)) (gX D classes (gT cJ cI cZ cS) ws sz XP) 1 6 (va_A ws sz)) : Met l y_L_all w_L_all ({ frames := 8, cells := 1, slots := 6, locals := 131 } : Room) (gh_Pc D classes (gT cJ cI cZ cS) [.ref b, .int x] ws sz base) (va_Qi (hq_v CP XP cd_1) (gw_B D classes (gT cJ cI cZ cS) ws sz) (va_A ws sz)) 1 6 (va_A ws sz) := by
  refine gh_head (by decide) (Nat.le_of_ble_eq_true rfl) (fun p e s m below meth c hsz hx hb hr hlocks hml hown hts hK hN hP hD hS hA hB hE hC htab ls hl => ?_)
  subst hsz
  have hown : s.vm.findClass R_L = some m.cls := hown
  have hT : ∀ w ∈ wG, w ∈ Cond.codeWith y_L_all b_L_all 3 (some .int) h_L_all :: wG := gd_t _
  have hF : CallFix p m c b_L_all 3 s ([.ref b, .int x] : List Value).toArray (Cond.codeWith y_L_all b_L_all 3 (some .int) h_L_all :: wG) R_L := ⟨hx, hb, hml, hown, hts⟩
  have hl : lv_has ls 3 [(0, .ref b), (1, .int x)] := hl
  refine lv_aload_n hx hb d_L_all_0 rfl (lv_at hl 0 rfl) ?_
  refine lv_iload_n hx hb d_L_all_1 rfl (lv_at hl 1 rfl) ?_
  refine gh_cv (gxc_L_7 (As := [.int x]) (rest := []) hF hT hM ⟨(Nat.le_of_ble_eq_true rfl), (Nat.le_of_ble_eq_true rfl)⟩ rfl rfl (gx_pre hK hN hP hD hS hB hA hE) hK hP he rfl hl.1 rfl (Nat.le_of_ble_eq_true rfl) d_L_all_2 ⟨(Nat.le_of_ble_eq_true rfl), (Nat.le_of_ble_eq_true rfl)⟩) hD hS hA (fun Z ce q9 w H locs hw hP hD hS hce hcv hcl => ?_) (fun w H locs hw hP hD hS => ?_)
  · have hz := hxp Z w hw
    subst hz
    refine gh_c1 hF hT hN htab (by decide) hce hcv hcl ?_
    refine lv_astore_n (lv' := [(2, .ref q9), (0, .ref b), (1, .int x)]) hx hb d_L_all_8 rfl hl (by decide) rfl (fun ls hl => ?_)
    refine lv_iconst (v := nI 1) hx hb d_L_all_9 (by decide) ?_
    exact gw_iret hx hb hr hlocks hK hP hD hS (Nat.le_of_ble_eq_true rfl) (Nat.le_of_ble_eq_true rfl) d_L_all_10 (Or.inr ⟨_, hw, (if_pos rfl).symm⟩)
  · refine lv_goto (tgt := 11) hx hb d_L_all_5 (by decide) ?_
    refine lv_iconst (v := nI 0) hx hb d_L_all_11 (by decide) ?_
    exact gw_iret hx hb hr hlocks hK hP hD hS (Nat.le_of_ble_eq_true rfl) (Nat.le_of_ble_eq_true rfl) d_L_all_12 (Or.inl ⟨rfl, hw⟩)

set_option maxHeartbeats 4000000 in
set_option maxRecDepth 100000 in
theorem hc_row {l : Launch} {D : va_G} {cJ cI cZ cS : ClassId} {ws : va_W} {sz base : Nat} {b q0 bo o : Nat} {fs : List Value} {f : Nat → Int64} {x : Int32} {y : Int32} {z : Int32} {v : Int64} {CP : Int32 → va_W → Prop} {XP : String → va_W → Prop} (he : ws[q0]? = some (b, .inr (2, fs))) (ho : ws[bo]? = some (o, .inl (cJ, 1, .inr (.inl f)))) (hcp : ∀ r w, CP r w → w[bo]? = ws[bo]?) (hxp : ∀ Z w, XP Z w → Z = xIOOB ∨ Z = xIAE ∨ Z = xARI) (hM : vx_Met l y_X_row w_X_row ({ frames := 7, cells := 5, slots := 30, locals := 136 } : Room) (gx_Pc D classes (gT cJ cI cZ cS) [.ref b, .int x, .int y, .int z, .long v] ws sz base) (va_Qi CP (gw_B D classes (gT cJ cI cZ cS) ws sz) (va_A ws sz)) (gX D classes (gT cJ cI cZ cS) ws sz XP) 5 30 (va_A ws sz)) : Met l y_L_row w_L_row ({ frames := 8, cells := 5, slots := 30, locals := 161 } : Room) (gh_Pc D classes (gT cJ cI cZ cS) [.ref b, .int x, .int y, .int z, .long v, .ref o] ws sz base) (va_Qi (hq_i cJ bo o (fun r : Int32 => r.toInt64) CP XP cd_123) (gw_B D classes (gT cJ cI cZ cS) ws sz) (va_A ws sz)) 5 30 (va_A ws sz) := by
  refine gh_head (by decide) (Nat.le_of_ble_eq_true rfl) (fun p e s m below meth c hsz hx hb hr hlocks hml hown hts hK hN hP hD hS hA hB hE hC htab ls hl => ?_)
  subst hsz
  have hown : s.vm.findClass R_L = some m.cls := hown
  have hT : ∀ w ∈ wG, w ∈ Cond.codeWith y_L_row b_L_row 8 (some .int) h_L_row :: wG := gd_t _
  have hF : CallFix p m c b_L_row 8 s ([.ref b, .int x, .int y, .int z, .long v, .ref o] : List Value).toArray (Cond.codeWith y_L_row b_L_row 8 (some .int) h_L_row :: wG) R_L := ⟨hx, hb, hml, hown, hts⟩
  have hl : lv_has ls 8 [(0, .ref b), (1, .int x), (2, .int y), (3, .int z), (4, .long v), (6, .ref o)] := hl
  refine lv_aload hx hb d_L_row_0 (lv_at hl 5 rfl) ?_
  refine lv_iconst (v := nI 0) hx hb d_L_row_2 (by decide) ?_
  refine lv_aload_n hx hb d_L_row_3 rfl (lv_at hl 0 rfl) ?_
  refine lv_iload_n hx hb d_L_row_4 rfl (lv_at hl 1 rfl) ?_
  refine lv_iload_n hx hb d_L_row_5 rfl (lv_at hl 2 rfl) ?_
  refine lv_iload_n hx hb d_L_row_6 rfl (lv_at hl 3 rfl) ?_
  refine lv_lload hx hb d_L_row_7 (lv_at hl 4 rfl) ?_
  refine gh_ci (gxc_L_15 (As := [.int x, .int y, .int z, .long v]) (rest := [.int (nI 0), .ref o]) hF hT hM ⟨(Nat.le_of_ble_eq_true rfl), (Nat.le_of_ble_eq_true rfl)⟩ rfl rfl (gx_pre hK hN hP hD hS hB hA hE) hK hP he rfl hl.1 rfl (Nat.le_of_ble_eq_true rfl) d_L_row_9 ⟨(Nat.le_of_ble_eq_true rfl), (Nat.le_of_ble_eq_true rfl)⟩) hD hS hA (fun Z ce q9 w H locs hw hP hD hS hce hcv hcl => ?_) (fun r w H locs hw hP hD hS => ?_)
  · have hz := hxp Z w hw
    rcases hz with rfl | rfl | rfl
    · refine gh_c1 hF hT hN htab (by decide) hce hcv hcl ?_
      refine lv_astore (lv' := [(7, .ref q9), (0, .ref b), (1, .int x), (2, .int y), (3, .int z), (4, .long v), (6, .ref o)]) hx hb d_L_row_17 hl (by decide) rfl (fun ls hl => ?_)
      refine lv_iconst (v := nI 1) hx hb d_L_row_19 (by decide) ?_
      exact gw_iret hx hb hr hlocks hK hP hD hS (Nat.le_of_ble_eq_true rfl) (Nat.le_of_ble_eq_true rfl) d_L_row_20 (Or.inr ⟨_, hw, (if_pos rfl).symm⟩)
    · refine gh_c2 hF hT hN hC htab (by decide) hce hcv hcl ?_
      refine lv_astore (lv' := [(7, .ref q9), (0, .ref b), (1, .int x), (2, .int y), (3, .int z), (4, .long v), (6, .ref o)]) hx hb d_L_row_21 hl (by decide) rfl (fun ls hl => ?_)
      refine lv_iconst (v := nI 2) hx hb d_L_row_23 (by decide) ?_
      exact gw_iret hx hb hr hlocks hK hP hD hS (Nat.le_of_ble_eq_true rfl) (Nat.le_of_ble_eq_true rfl) d_L_row_24 (Or.inr ⟨_, hw, ((if_neg (by decide)).trans (if_pos rfl)).symm⟩)
    · refine gh_c3 hF hT hN hC htab (by decide) hce hcv hcl ?_
      refine lv_astore (lv' := [(7, .ref q9), (0, .ref b), (1, .int x), (2, .int y), (3, .int z), (4, .long v), (6, .ref o)]) hx hb d_L_row_25 hl (by decide) rfl (fun ls hl => ?_)
      refine lv_iconst (v := nI 3) hx hb d_L_row_27 (by decide) ?_
      exact gw_iret hx hb hr hlocks hK hP hD hS (Nat.le_of_ble_eq_true rfl) (Nat.le_of_ble_eq_true rfl) d_L_row_28 (Or.inr ⟨_, hw, ((if_neg (by decide)).trans (if_neg (by decide))).symm⟩)
  · have ho1 := (hcp r w hw).trans ho
    refine lv_i2l (v := r.toInt64) hx hb d_L_row_12 rfl ?_
    refine g_last (t0 := 0) (k := 0) hx hb hK hP hD hS ho1 rfl (by omega) (by omega) d_L_row_13 (fun w2 H locs ho2 hf hP hD hS => ?_)
    refine lv_goto (tgt := 29) hx hb d_L_row_14 (by decide) ?_
    refine lv_iconst (v := nI 0) hx hb d_L_row_29 (by decide) ?_
    exact gw_iret hx hb hr hlocks hK hP hD hS (Nat.le_of_ble_eq_true rfl) (Nat.le_of_ble_eq_true rfl) d_L_row_30 (Or.inl ⟨rfl, r, w, f, hw, ho2, hf⟩)

set_option maxHeartbeats 4000000 in
set_option maxRecDepth 100000 in
theorem hc_bound {l : Launch} {D : va_G} {cJ cI cZ cS : ClassId} {ws : va_W} {sz base : Nat} {b q0 bo o : Nat} {fs : List Value} {f : Nat → Int64} {x : Int32} {y : Int32} {z : Int32} {CP : Int64 → va_W → Prop} {XP : String → va_W → Prop} (he : ws[q0]? = some (b, .inr (2, fs))) (ho : ws[bo]? = some (o, .inl (cJ, 1, .inr (.inl f)))) (hcp : ∀ r w, CP r w → w[bo]? = ws[bo]?) (hxp : ∀ Z w, XP Z w → Z = xIOOB) (hM : vx_Met l y_X_bound w_X_bound ({ frames := 7, cells := 3, slots := 18, locals := 111 } : Room) (gx_Pc D classes (gT cJ cI cZ cS) [.ref b, .int x, .int y, .int z] ws sz base) (va_Ql CP (gw_B D classes (gT cJ cI cZ cS) ws sz) (va_A ws sz)) (gX D classes (gT cJ cI cZ cS) ws sz XP) 3 18 (va_A ws sz)) : Met l y_L_bound w_L_bound ({ frames := 8, cells := 3, slots := 18, locals := 134 } : Room) (gh_Pc D classes (gT cJ cI cZ cS) [.ref b, .int x, .int y, .int z, .ref o] ws sz base) (va_Qi (hq_i cJ bo o (fun r : Int64 => r) CP XP cd_1) (gw_B D classes (gT cJ cI cZ cS) ws sz) (va_A ws sz)) 3 18 (va_A ws sz) := by
  refine gh_head (by decide) (Nat.le_of_ble_eq_true rfl) (fun p e s m below meth c hsz hx hb hr hlocks hml hown hts hK hN hP hD hS hA hB hE hC htab ls hl => ?_)
  subst hsz
  have hown : s.vm.findClass R_L = some m.cls := hown
  have hT : ∀ w ∈ wG, w ∈ Cond.codeWith y_L_bound b_L_bound 6 (some .int) h_L_bound :: wG := gd_t _
  have hF : CallFix p m c b_L_bound 6 s ([.ref b, .int x, .int y, .int z, .ref o] : List Value).toArray (Cond.codeWith y_L_bound b_L_bound 6 (some .int) h_L_bound :: wG) R_L := ⟨hx, hb, hml, hown, hts⟩
  have hl : lv_has ls 6 [(0, .ref b), (1, .int x), (2, .int y), (3, .int z), (4, .ref o)] := hl
  refine lv_aload hx hb d_L_bound_0 (lv_at hl 4 rfl) ?_
  refine lv_iconst (v := nI 0) hx hb d_L_bound_2 (by decide) ?_
  refine lv_aload_n hx hb d_L_bound_3 rfl (lv_at hl 0 rfl) ?_
  refine lv_iload_n hx hb d_L_bound_4 rfl (lv_at hl 1 rfl) ?_
  refine lv_iload_n hx hb d_L_bound_5 rfl (lv_at hl 2 rfl) ?_
  refine lv_iload_n hx hb d_L_bound_6 rfl (lv_at hl 3 rfl) ?_
  refine gh_cl (gxc_L_23 (As := [.int x, .int y, .int z]) (rest := [.int (nI 0), .ref o]) hF hT hM ⟨(Nat.le_of_ble_eq_true rfl), (Nat.le_of_ble_eq_true rfl)⟩ rfl rfl (gx_pre hK hN hP hD hS hB hA hE) hK hP he rfl hl.1 rfl (Nat.le_of_ble_eq_true rfl) d_L_bound_7 ⟨(Nat.le_of_ble_eq_true rfl), (Nat.le_of_ble_eq_true rfl)⟩) hD hS hA (fun Z ce q9 w H locs hw hP hD hS hce hcv hcl => ?_) (fun r w H locs hw hP hD hS => ?_)
  · have hz := hxp Z w hw
    subst hz
    refine gh_c1 hF hT hN htab (by decide) hce hcv hcl ?_
    refine lv_astore (lv' := [(5, .ref q9), (0, .ref b), (1, .int x), (2, .int y), (3, .int z), (4, .ref o)]) hx hb d_L_bound_14 hl (by decide) rfl (fun ls hl => ?_)
    refine lv_iconst (v := nI 1) hx hb d_L_bound_16 (by decide) ?_
    exact gw_iret hx hb hr hlocks hK hP hD hS (Nat.le_of_ble_eq_true rfl) (Nat.le_of_ble_eq_true rfl) d_L_bound_17 (Or.inr ⟨_, hw, (if_pos rfl).symm⟩)
  · have ho1 := (hcp r w hw).trans ho
    refine g_last (t0 := 0) (k := 0) hx hb hK hP hD hS ho1 rfl (by omega) (by omega) d_L_bound_10 (fun w2 H locs ho2 hf hP hD hS => ?_)
    refine lv_goto (tgt := 18) hx hb d_L_bound_11 (by decide) ?_
    refine lv_iconst (v := nI 0) hx hb d_L_bound_18 (by decide) ?_
    exact gw_iret hx hb hr hlocks hK hP hD hS (Nat.le_of_ble_eq_true rfl) (Nat.le_of_ble_eq_true rfl) d_L_bound_19 (Or.inl ⟨rfl, r, w, f, hw, ho2, hf⟩)

set_option maxHeartbeats 4000000 in
set_option maxRecDepth 100000 in
theorem hc_kept {l : Launch} {D : va_G} {cJ cI cZ cS : ClassId} {ws : va_W} {sz base : Nat} {b q0 bo o : Nat} {fs : List Value} {f : Nat → Int64} {x : Int32} {y : Int32} {z : Int32} {CP : Int64 → va_W → Prop} {XP : String → va_W → Prop} (he : ws[q0]? = some (b, .inr (2, fs))) (ho : ws[bo]? = some (o, .inl (cJ, 1, .inr (.inl f)))) (hcp : ∀ r w, CP r w → w[bo]? = ws[bo]?) (hxp : ∀ Z w, XP Z w → Z = xIOOB) (hM : vx_Met l y_X_kept w_X_kept ({ frames := 7, cells := 3, slots := 18, locals := 111 } : Room) (gx_Pc D classes (gT cJ cI cZ cS) [.ref b, .int x, .int y, .int z] ws sz base) (va_Ql CP (gw_B D classes (gT cJ cI cZ cS) ws sz) (va_A ws sz)) (gX D classes (gT cJ cI cZ cS) ws sz XP) 3 18 (va_A ws sz)) : Met l y_L_kept w_L_kept ({ frames := 8, cells := 3, slots := 18, locals := 134 } : Room) (gh_Pc D classes (gT cJ cI cZ cS) [.ref b, .int x, .int y, .int z, .ref o] ws sz base) (va_Qi (hq_i cJ bo o (fun r : Int64 => r) CP XP cd_1) (gw_B D classes (gT cJ cI cZ cS) ws sz) (va_A ws sz)) 3 18 (va_A ws sz) := by
  refine gh_head (by decide) (Nat.le_of_ble_eq_true rfl) (fun p e s m below meth c hsz hx hb hr hlocks hml hown hts hK hN hP hD hS hA hB hE hC htab ls hl => ?_)
  subst hsz
  have hown : s.vm.findClass R_L = some m.cls := hown
  have hT : ∀ w ∈ wG, w ∈ Cond.codeWith y_L_kept b_L_kept 6 (some .int) h_L_kept :: wG := gd_t _
  have hF : CallFix p m c b_L_kept 6 s ([.ref b, .int x, .int y, .int z, .ref o] : List Value).toArray (Cond.codeWith y_L_kept b_L_kept 6 (some .int) h_L_kept :: wG) R_L := ⟨hx, hb, hml, hown, hts⟩
  have hl : lv_has ls 6 [(0, .ref b), (1, .int x), (2, .int y), (3, .int z), (4, .ref o)] := hl
  refine lv_aload hx hb d_L_kept_0 (lv_at hl 4 rfl) ?_
  refine lv_iconst (v := nI 0) hx hb d_L_kept_2 (by decide) ?_
  refine lv_aload_n hx hb d_L_kept_3 rfl (lv_at hl 0 rfl) ?_
  refine lv_iload_n hx hb d_L_kept_4 rfl (lv_at hl 1 rfl) ?_
  refine lv_iload_n hx hb d_L_kept_5 rfl (lv_at hl 2 rfl) ?_
  refine lv_iload_n hx hb d_L_kept_6 rfl (lv_at hl 3 rfl) ?_
  refine gh_cl (gxc_L_27 (As := [.int x, .int y, .int z]) (rest := [.int (nI 0), .ref o]) hF hT hM ⟨(Nat.le_of_ble_eq_true rfl), (Nat.le_of_ble_eq_true rfl)⟩ rfl rfl (gx_pre hK hN hP hD hS hB hA hE) hK hP he rfl hl.1 rfl (Nat.le_of_ble_eq_true rfl) d_L_kept_7 ⟨(Nat.le_of_ble_eq_true rfl), (Nat.le_of_ble_eq_true rfl)⟩) hD hS hA (fun Z ce q9 w H locs hw hP hD hS hce hcv hcl => ?_) (fun r w H locs hw hP hD hS => ?_)
  · have hz := hxp Z w hw
    subst hz
    refine gh_c1 hF hT hN htab (by decide) hce hcv hcl ?_
    refine lv_astore (lv' := [(5, .ref q9), (0, .ref b), (1, .int x), (2, .int y), (3, .int z), (4, .ref o)]) hx hb d_L_kept_14 hl (by decide) rfl (fun ls hl => ?_)
    refine lv_iconst (v := nI 1) hx hb d_L_kept_16 (by decide) ?_
    exact gw_iret hx hb hr hlocks hK hP hD hS (Nat.le_of_ble_eq_true rfl) (Nat.le_of_ble_eq_true rfl) d_L_kept_17 (Or.inr ⟨_, hw, (if_pos rfl).symm⟩)
  · have ho1 := (hcp r w hw).trans ho
    refine g_last (t0 := 0) (k := 0) hx hb hK hP hD hS ho1 rfl (by omega) (by omega) d_L_kept_10 (fun w2 H locs ho2 hf hP hD hS => ?_)
    refine lv_goto (tgt := 18) hx hb d_L_kept_11 (by decide) ?_
    refine lv_iconst (v := nI 0) hx hb d_L_kept_18 (by decide) ?_
    exact gw_iret hx hb hr hlocks hK hP hD hS (Nat.le_of_ble_eq_true rfl) (Nat.le_of_ble_eq_true rfl) d_L_kept_19 (Or.inl ⟨rfl, r, w, f, hw, ho2, hf⟩)

set_option maxHeartbeats 4000000 in
set_option maxRecDepth 100000 in
theorem hc_meet {l : Launch} {D : va_G} {cJ cI cZ cS : ClassId} {ws : va_W} {sz base : Nat} {b q0 bo o : Nat} {fs : List Value} {f : Nat → Int64} {x : Int32} {y : Int32} {z : Int32} {CP : Int32 → va_W → Prop} {XP : String → va_W → Prop} (he : ws[q0]? = some (b, .inr (2, fs))) (ho : ws[bo]? = some (o, .inl (cJ, 1, .inr (.inl f)))) (hcp : ∀ r w, CP r w → w[bo]? = ws[bo]?) (hxp : ∀ Z w, XP Z w → Z = xIOOB ∨ Z = xARI) (hM : vx_Met l y_X_meet w_X_meet ({ frames := 8, cells := 4, slots := 24, locals := 135 } : Room) (gx_Pc D classes (gT cJ cI cZ cS) [.ref b, .int x, .int y, .int z] ws sz base) (va_Qi CP (gw_B D classes (gT cJ cI cZ cS) ws sz) (va_A ws sz)) (gX D classes (gT cJ cI cZ cS) ws sz XP) 4 24 (va_A ws sz)) : Met l y_L_meet w_L_meet ({ frames := 9, cells := 4, slots := 24, locals := 158 } : Room) (gh_Pc D classes (gT cJ cI cZ cS) [.ref b, .int x, .int y, .int z, .ref o] ws sz base) (va_Qi (hq_i cJ bo o (fun r : Int32 => r.toInt64) CP XP cd_13) (gw_B D classes (gT cJ cI cZ cS) ws sz) (va_A ws sz)) 4 24 (va_A ws sz) := by
  refine gh_head (by decide) (Nat.le_of_ble_eq_true rfl) (fun p e s m below meth c hsz hx hb hr hlocks hml hown hts hK hN hP hD hS hA hB hE hC htab ls hl => ?_)
  subst hsz
  have hown : s.vm.findClass R_L = some m.cls := hown
  have hT : ∀ w ∈ wG, w ∈ Cond.codeWith y_L_meet b_L_meet 6 (some .int) h_L_meet :: wG := gd_t _
  have hF : CallFix p m c b_L_meet 6 s ([.ref b, .int x, .int y, .int z, .ref o] : List Value).toArray (Cond.codeWith y_L_meet b_L_meet 6 (some .int) h_L_meet :: wG) R_L := ⟨hx, hb, hml, hown, hts⟩
  have hl : lv_has ls 6 [(0, .ref b), (1, .int x), (2, .int y), (3, .int z), (4, .ref o)] := hl
  refine lv_aload hx hb d_L_meet_0 (lv_at hl 4 rfl) ?_
  refine lv_iconst (v := nI 0) hx hb d_L_meet_2 (by decide) ?_
  refine lv_aload_n hx hb d_L_meet_3 rfl (lv_at hl 0 rfl) ?_
  refine lv_iload_n hx hb d_L_meet_4 rfl (lv_at hl 1 rfl) ?_
  refine lv_iload_n hx hb d_L_meet_5 rfl (lv_at hl 2 rfl) ?_
  refine lv_iload_n hx hb d_L_meet_6 rfl (lv_at hl 3 rfl) ?_
  refine gh_ci (gxc_L_30 (As := [.int x, .int y, .int z]) (rest := [.int (nI 0), .ref o]) hF hT hM ⟨(Nat.le_of_ble_eq_true rfl), (Nat.le_of_ble_eq_true rfl)⟩ rfl rfl (gx_pre hK hN hP hD hS hB hA hE) hK hP he rfl hl.1 rfl (Nat.le_of_ble_eq_true rfl) d_L_meet_7 ⟨(Nat.le_of_ble_eq_true rfl), (Nat.le_of_ble_eq_true rfl)⟩) hD hS hA (fun Z ce q9 w H locs hw hP hD hS hce hcv hcl => ?_) (fun r w H locs hw hP hD hS => ?_)
  · have hz := hxp Z w hw
    rcases hz with rfl | rfl
    · refine gh_c1 hF hT hN htab (by decide) hce hcv hcl ?_
      refine lv_astore (lv' := [(5, .ref q9), (0, .ref b), (1, .int x), (2, .int y), (3, .int z), (4, .ref o)]) hx hb d_L_meet_15 hl (by decide) rfl (fun ls hl => ?_)
      refine lv_iconst (v := nI 1) hx hb d_L_meet_17 (by decide) ?_
      exact gw_iret hx hb hr hlocks hK hP hD hS (Nat.le_of_ble_eq_true rfl) (Nat.le_of_ble_eq_true rfl) d_L_meet_18 (Or.inr ⟨_, hw, (if_pos rfl).symm⟩)
    · refine gh_c4 hF hT hN hC htab (by decide) hce hcv hcl ?_
      refine lv_astore (lv' := [(5, .ref q9), (0, .ref b), (1, .int x), (2, .int y), (3, .int z), (4, .ref o)]) hx hb d_L_meet_19 hl (by decide) rfl (fun ls hl => ?_)
      refine lv_iconst (v := nI 2) hx hb d_L_meet_21 (by decide) ?_
      exact gw_iret hx hb hr hlocks hK hP hD hS (Nat.le_of_ble_eq_true rfl) (Nat.le_of_ble_eq_true rfl) d_L_meet_22 (Or.inr ⟨_, hw, (if_neg (by decide)).symm⟩)
  · have ho1 := (hcp r w hw).trans ho
    refine lv_i2l (v := r.toInt64) hx hb d_L_meet_10 rfl ?_
    refine g_last (t0 := 0) (k := 0) hx hb hK hP hD hS ho1 rfl (by omega) (by omega) d_L_meet_11 (fun w2 H locs ho2 hf hP hD hS => ?_)
    refine lv_goto (tgt := 23) hx hb d_L_meet_12 (by decide) ?_
    refine lv_iconst (v := nI 0) hx hb d_L_meet_23 (by decide) ?_
    exact gw_iret hx hb hr hlocks hK hP hD hS (Nat.le_of_ble_eq_true rfl) (Nat.le_of_ble_eq_true rfl) d_L_meet_24 (Or.inl ⟨rfl, r, w, f, hw, ho2, hf⟩)

set_option maxHeartbeats 4000000 in
set_option maxRecDepth 100000 in
theorem hc_join {l : Launch} {D : va_G} {cJ cI cZ cS : ClassId} {ws : va_W} {sz base : Nat} {b q0 bo o : Nat} {fs : List Value} {f : Nat → Int64} {x : Int32} {y : Int32} {z : Int32} {CP : Int32 → va_W → Prop} {XP : String → va_W → Prop} (he : ws[q0]? = some (b, .inr (2, fs))) (ho : ws[bo]? = some (o, .inl (cJ, 1, .inr (.inl f)))) (hcp : ∀ r w, CP r w → w[bo]? = ws[bo]?) (hxp : ∀ Z w, XP Z w → Z = xIOOB) (hM : vx_Met l y_X_join w_X_join ({ frames := 8, cells := 4, slots := 24, locals := 132 } : Room) (gx_Pc D classes (gT cJ cI cZ cS) [.ref b, .int x, .int y, .int z] ws sz base) (va_Qi CP (gw_B D classes (gT cJ cI cZ cS) ws sz) (va_A ws sz)) (gX D classes (gT cJ cI cZ cS) ws sz XP) 4 24 (va_A ws sz)) : Met l y_L_join w_L_join ({ frames := 9, cells := 4, slots := 24, locals := 155 } : Room) (gh_Pc D classes (gT cJ cI cZ cS) [.ref b, .int x, .int y, .int z, .ref o] ws sz base) (va_Qi (hq_i cJ bo o (fun r : Int32 => r.toInt64) CP XP cd_1) (gw_B D classes (gT cJ cI cZ cS) ws sz) (va_A ws sz)) 4 24 (va_A ws sz) := by
  refine gh_head (by decide) (Nat.le_of_ble_eq_true rfl) (fun p e s m below meth c hsz hx hb hr hlocks hml hown hts hK hN hP hD hS hA hB hE hC htab ls hl => ?_)
  subst hsz
  have hown : s.vm.findClass R_L = some m.cls := hown
  have hT : ∀ w ∈ wG, w ∈ Cond.codeWith y_L_join b_L_join 6 (some .int) h_L_join :: wG := gd_t _
  have hF : CallFix p m c b_L_join 6 s ([.ref b, .int x, .int y, .int z, .ref o] : List Value).toArray (Cond.codeWith y_L_join b_L_join 6 (some .int) h_L_join :: wG) R_L := ⟨hx, hb, hml, hown, hts⟩
  have hl : lv_has ls 6 [(0, .ref b), (1, .int x), (2, .int y), (3, .int z), (4, .ref o)] := hl
  refine lv_aload hx hb d_L_join_0 (lv_at hl 4 rfl) ?_
  refine lv_iconst (v := nI 0) hx hb d_L_join_2 (by decide) ?_
  refine lv_aload_n hx hb d_L_join_3 rfl (lv_at hl 0 rfl) ?_
  refine lv_iload_n hx hb d_L_join_4 rfl (lv_at hl 1 rfl) ?_
  refine lv_iload_n hx hb d_L_join_5 rfl (lv_at hl 2 rfl) ?_
  refine lv_iload_n hx hb d_L_join_6 rfl (lv_at hl 3 rfl) ?_
  refine gh_ci (gxc_L_34 (As := [.int x, .int y, .int z]) (rest := [.int (nI 0), .ref o]) hF hT hM ⟨(Nat.le_of_ble_eq_true rfl), (Nat.le_of_ble_eq_true rfl)⟩ rfl rfl (gx_pre hK hN hP hD hS hB hA hE) hK hP he rfl hl.1 rfl (Nat.le_of_ble_eq_true rfl) d_L_join_7 ⟨(Nat.le_of_ble_eq_true rfl), (Nat.le_of_ble_eq_true rfl)⟩) hD hS hA (fun Z ce q9 w H locs hw hP hD hS hce hcv hcl => ?_) (fun r w H locs hw hP hD hS => ?_)
  · have hz := hxp Z w hw
    subst hz
    refine gh_c1 hF hT hN htab (by decide) hce hcv hcl ?_
    refine lv_astore (lv' := [(5, .ref q9), (0, .ref b), (1, .int x), (2, .int y), (3, .int z), (4, .ref o)]) hx hb d_L_join_15 hl (by decide) rfl (fun ls hl => ?_)
    refine lv_iconst (v := nI 1) hx hb d_L_join_17 (by decide) ?_
    exact gw_iret hx hb hr hlocks hK hP hD hS (Nat.le_of_ble_eq_true rfl) (Nat.le_of_ble_eq_true rfl) d_L_join_18 (Or.inr ⟨_, hw, (if_pos rfl).symm⟩)
  · have ho1 := (hcp r w hw).trans ho
    refine lv_i2l (v := r.toInt64) hx hb d_L_join_10 rfl ?_
    refine g_last (t0 := 0) (k := 0) hx hb hK hP hD hS ho1 rfl (by omega) (by omega) d_L_join_11 (fun w2 H locs ho2 hf hP hD hS => ?_)
    refine lv_goto (tgt := 19) hx hb d_L_join_12 (by decide) ?_
    refine lv_iconst (v := nI 0) hx hb d_L_join_19 (by decide) ?_
    exact gw_iret hx hb hr hlocks hK hP hD hS (Nat.le_of_ble_eq_true rfl) (Nat.le_of_ble_eq_true rfl) d_L_join_20 (Or.inl ⟨rfl, r, w, f, hw, ho2, hf⟩)

set_option maxHeartbeats 4000000 in
set_option maxRecDepth 100000 in
theorem hc_widen {l : Launch} {D : va_G} {cJ cI cZ cS : ClassId} {ws : va_W} {sz base : Nat} {b q0 bo o : Nat} {fs : List Value} {f : Nat → Int64} {x : Int32} {y : Int32} {z : Int32} {CP : Int32 → va_W → Prop} {XP : String → va_W → Prop} (he : ws[q0]? = some (b, .inr (2, fs))) (ho : ws[bo]? = some (o, .inl (cJ, 1, .inr (.inl f)))) (hcp : ∀ r w, CP r w → w[bo]? = ws[bo]?) (hxp : ∀ Z w, XP Z w → Z = xIOOB ∨ Z = xARI) (hM : vx_Met l y_X_widen w_X_widen ({ frames := 8, cells := 4, slots := 24, locals := 137 } : Room) (gx_Pc D classes (gT cJ cI cZ cS) [.ref b, .int x, .int y, .int z] ws sz base) (va_Qi CP (gw_B D classes (gT cJ cI cZ cS) ws sz) (va_A ws sz)) (gX D classes (gT cJ cI cZ cS) ws sz XP) 4 24 (va_A ws sz)) : Met l y_L_widen w_L_widen ({ frames := 9, cells := 4, slots := 24, locals := 160 } : Room) (gh_Pc D classes (gT cJ cI cZ cS) [.ref b, .int x, .int y, .int z, .ref o] ws sz base) (va_Qi (hq_i cJ bo o (fun r : Int32 => r.toInt64) CP XP cd_13) (gw_B D classes (gT cJ cI cZ cS) ws sz) (va_A ws sz)) 4 24 (va_A ws sz) := by
  refine gh_head (by decide) (Nat.le_of_ble_eq_true rfl) (fun p e s m below meth c hsz hx hb hr hlocks hml hown hts hK hN hP hD hS hA hB hE hC htab ls hl => ?_)
  subst hsz
  have hown : s.vm.findClass R_L = some m.cls := hown
  have hT : ∀ w ∈ wG, w ∈ Cond.codeWith y_L_widen b_L_widen 6 (some .int) h_L_widen :: wG := gd_t _
  have hF : CallFix p m c b_L_widen 6 s ([.ref b, .int x, .int y, .int z, .ref o] : List Value).toArray (Cond.codeWith y_L_widen b_L_widen 6 (some .int) h_L_widen :: wG) R_L := ⟨hx, hb, hml, hown, hts⟩
  have hl : lv_has ls 6 [(0, .ref b), (1, .int x), (2, .int y), (3, .int z), (4, .ref o)] := hl
  refine lv_aload hx hb d_L_widen_0 (lv_at hl 4 rfl) ?_
  refine lv_iconst (v := nI 0) hx hb d_L_widen_2 (by decide) ?_
  refine lv_aload_n hx hb d_L_widen_3 rfl (lv_at hl 0 rfl) ?_
  refine lv_iload_n hx hb d_L_widen_4 rfl (lv_at hl 1 rfl) ?_
  refine lv_iload_n hx hb d_L_widen_5 rfl (lv_at hl 2 rfl) ?_
  refine lv_iload_n hx hb d_L_widen_6 rfl (lv_at hl 3 rfl) ?_
  refine gh_ci (gxc_L_37 (As := [.int x, .int y, .int z]) (rest := [.int (nI 0), .ref o]) hF hT hM ⟨(Nat.le_of_ble_eq_true rfl), (Nat.le_of_ble_eq_true rfl)⟩ rfl rfl (gx_pre hK hN hP hD hS hB hA hE) hK hP he rfl hl.1 rfl (Nat.le_of_ble_eq_true rfl) d_L_widen_7 ⟨(Nat.le_of_ble_eq_true rfl), (Nat.le_of_ble_eq_true rfl)⟩) hD hS hA (fun Z ce q9 w H locs hw hP hD hS hce hcv hcl => ?_) (fun r w H locs hw hP hD hS => ?_)
  · have hz := hxp Z w hw
    rcases hz with rfl | rfl
    · refine gh_c1 hF hT hN htab (by decide) hce hcv hcl ?_
      refine lv_astore (lv' := [(5, .ref q9), (0, .ref b), (1, .int x), (2, .int y), (3, .int z), (4, .ref o)]) hx hb d_L_widen_15 hl (by decide) rfl (fun ls hl => ?_)
      refine lv_iconst (v := nI 1) hx hb d_L_widen_17 (by decide) ?_
      exact gw_iret hx hb hr hlocks hK hP hD hS (Nat.le_of_ble_eq_true rfl) (Nat.le_of_ble_eq_true rfl) d_L_widen_18 (Or.inr ⟨_, hw, (if_pos rfl).symm⟩)
    · refine gh_c4 hF hT hN hC htab (by decide) hce hcv hcl ?_
      refine lv_astore (lv' := [(5, .ref q9), (0, .ref b), (1, .int x), (2, .int y), (3, .int z), (4, .ref o)]) hx hb d_L_widen_19 hl (by decide) rfl (fun ls hl => ?_)
      refine lv_iconst (v := nI 2) hx hb d_L_widen_21 (by decide) ?_
      exact gw_iret hx hb hr hlocks hK hP hD hS (Nat.le_of_ble_eq_true rfl) (Nat.le_of_ble_eq_true rfl) d_L_widen_22 (Or.inr ⟨_, hw, (if_neg (by decide)).symm⟩)
  · have ho1 := (hcp r w hw).trans ho
    refine lv_i2l (v := r.toInt64) hx hb d_L_widen_10 rfl ?_
    refine g_last (t0 := 0) (k := 0) hx hb hK hP hD hS ho1 rfl (by omega) (by omega) d_L_widen_11 (fun w2 H locs ho2 hf hP hD hS => ?_)
    refine lv_goto (tgt := 23) hx hb d_L_widen_12 (by decide) ?_
    refine lv_iconst (v := nI 0) hx hb d_L_widen_23 (by decide) ?_
    exact gw_iret hx hb hr hlocks hK hP hD hS (Nat.le_of_ble_eq_true rfl) (Nat.le_of_ble_eq_true rfl) d_L_widen_24 (Or.inl ⟨rfl, r, w, f, hw, ho2, hf⟩)

set_option maxHeartbeats 4000000 in
set_option maxRecDepth 100000 in
theorem hc_narrow {l : Launch} {D : va_G} {cJ cI cZ cS : ClassId} {ws : va_W} {sz base : Nat} {b q0 bo o : Nat} {fs : List Value} {f : Nat → Int64} {x : Int32} {y : Int32} {z : Int32} {CP : Int32 → va_W → Prop} {XP : String → va_W → Prop} (he : ws[q0]? = some (b, .inr (2, fs))) (ho : ws[bo]? = some (o, .inl (cJ, 1, .inr (.inl f)))) (hcp : ∀ r w, CP r w → w[bo]? = ws[bo]?) (hxp : ∀ Z w, XP Z w → Z = xIOOB ∨ Z = xARI) (hM : vx_Met l y_X_narrow w_X_narrow ({ frames := 8, cells := 4, slots := 24, locals := 136 } : Room) (gx_Pc D classes (gT cJ cI cZ cS) [.ref b, .int x, .int y, .int z] ws sz base) (va_Qi CP (gw_B D classes (gT cJ cI cZ cS) ws sz) (va_A ws sz)) (gX D classes (gT cJ cI cZ cS) ws sz XP) 4 24 (va_A ws sz)) : Met l y_L_narrow w_L_narrow ({ frames := 9, cells := 4, slots := 24, locals := 159 } : Room) (gh_Pc D classes (gT cJ cI cZ cS) [.ref b, .int x, .int y, .int z, .ref o] ws sz base) (va_Qi (hq_i cJ bo o (fun r : Int32 => r.toInt64) CP XP cd_13) (gw_B D classes (gT cJ cI cZ cS) ws sz) (va_A ws sz)) 4 24 (va_A ws sz) := by
  refine gh_head (by decide) (Nat.le_of_ble_eq_true rfl) (fun p e s m below meth c hsz hx hb hr hlocks hml hown hts hK hN hP hD hS hA hB hE hC htab ls hl => ?_)
  subst hsz
  have hown : s.vm.findClass R_L = some m.cls := hown
  have hT : ∀ w ∈ wG, w ∈ Cond.codeWith y_L_narrow b_L_narrow 6 (some .int) h_L_narrow :: wG := gd_t _
  have hF : CallFix p m c b_L_narrow 6 s ([.ref b, .int x, .int y, .int z, .ref o] : List Value).toArray (Cond.codeWith y_L_narrow b_L_narrow 6 (some .int) h_L_narrow :: wG) R_L := ⟨hx, hb, hml, hown, hts⟩
  have hl : lv_has ls 6 [(0, .ref b), (1, .int x), (2, .int y), (3, .int z), (4, .ref o)] := hl
  refine lv_aload hx hb d_L_narrow_0 (lv_at hl 4 rfl) ?_
  refine lv_iconst (v := nI 0) hx hb d_L_narrow_2 (by decide) ?_
  refine lv_aload_n hx hb d_L_narrow_3 rfl (lv_at hl 0 rfl) ?_
  refine lv_iload_n hx hb d_L_narrow_4 rfl (lv_at hl 1 rfl) ?_
  refine lv_iload_n hx hb d_L_narrow_5 rfl (lv_at hl 2 rfl) ?_
  refine lv_iload_n hx hb d_L_narrow_6 rfl (lv_at hl 3 rfl) ?_
  refine gh_ci (gxc_L_40 (As := [.int x, .int y, .int z]) (rest := [.int (nI 0), .ref o]) hF hT hM ⟨(Nat.le_of_ble_eq_true rfl), (Nat.le_of_ble_eq_true rfl)⟩ rfl rfl (gx_pre hK hN hP hD hS hB hA hE) hK hP he rfl hl.1 rfl (Nat.le_of_ble_eq_true rfl) d_L_narrow_7 ⟨(Nat.le_of_ble_eq_true rfl), (Nat.le_of_ble_eq_true rfl)⟩) hD hS hA (fun Z ce q9 w H locs hw hP hD hS hce hcv hcl => ?_) (fun r w H locs hw hP hD hS => ?_)
  · have hz := hxp Z w hw
    rcases hz with rfl | rfl
    · refine gh_c1 hF hT hN htab (by decide) hce hcv hcl ?_
      refine lv_astore (lv' := [(5, .ref q9), (0, .ref b), (1, .int x), (2, .int y), (3, .int z), (4, .ref o)]) hx hb d_L_narrow_15 hl (by decide) rfl (fun ls hl => ?_)
      refine lv_iconst (v := nI 1) hx hb d_L_narrow_17 (by decide) ?_
      exact gw_iret hx hb hr hlocks hK hP hD hS (Nat.le_of_ble_eq_true rfl) (Nat.le_of_ble_eq_true rfl) d_L_narrow_18 (Or.inr ⟨_, hw, (if_pos rfl).symm⟩)
    · refine gh_c4 hF hT hN hC htab (by decide) hce hcv hcl ?_
      refine lv_astore (lv' := [(5, .ref q9), (0, .ref b), (1, .int x), (2, .int y), (3, .int z), (4, .ref o)]) hx hb d_L_narrow_19 hl (by decide) rfl (fun ls hl => ?_)
      refine lv_iconst (v := nI 2) hx hb d_L_narrow_21 (by decide) ?_
      exact gw_iret hx hb hr hlocks hK hP hD hS (Nat.le_of_ble_eq_true rfl) (Nat.le_of_ble_eq_true rfl) d_L_narrow_22 (Or.inr ⟨_, hw, (if_neg (by decide)).symm⟩)
  · have ho1 := (hcp r w hw).trans ho
    refine lv_i2l (v := r.toInt64) hx hb d_L_narrow_10 rfl ?_
    refine g_last (t0 := 0) (k := 0) hx hb hK hP hD hS ho1 rfl (by omega) (by omega) d_L_narrow_11 (fun w2 H locs ho2 hf hP hD hS => ?_)
    refine lv_goto (tgt := 23) hx hb d_L_narrow_12 (by decide) ?_
    refine lv_iconst (v := nI 0) hx hb d_L_narrow_23 (by decide) ?_
    exact gw_iret hx hb hr hlocks hK hP hD hS (Nat.le_of_ble_eq_true rfl) (Nat.le_of_ble_eq_true rfl) d_L_narrow_24 (Or.inl ⟨rfl, r, w, f, hw, ho2, hf⟩)

set_option maxHeartbeats 4000000 in
set_option maxRecDepth 100000 in
theorem hc_copy {l : Launch} {D : va_G} {cJ cI cZ cS : ClassId} {ws : va_W} {sz base : Nat} {b q0 bo o : Nat} {fs : List Value} {f : Nat → Int64} {x : Int32} {y : Int32} {CP : va_W → Prop} {XP : String → va_W → Prop} (he : ws[q0]? = some (b, .inr (2, fs))) (hxp : ∀ Z w, XP Z w → Z = xIOOB) (hM : vx_Met l y_X_copy w_X_copy ({ frames := 7, cells := 2, slots := 12, locals := 110 } : Room) (gx_Pc D classes (gT cJ cI cZ cS) [.ref b, .int x, .int y] ws sz base) (va_Qv CP (gw_B D classes (gT cJ cI cZ cS) ws sz) (va_A ws sz)) (gX D classes (gT cJ cI cZ cS) ws sz XP) 2 12 (va_A ws sz)) : Met l y_L_copy w_L_copy ({ frames := 8, cells := 2, slots := 12, locals := 132 } : Room) (gh_Pc D classes (gT cJ cI cZ cS) [.ref b, .int x, .int y] ws sz base) (va_Qi (hq_v CP XP cd_1) (gw_B D classes (gT cJ cI cZ cS) ws sz) (va_A ws sz)) 2 12 (va_A ws sz) := by
  refine gh_head (by decide) (Nat.le_of_ble_eq_true rfl) (fun p e s m below meth c hsz hx hb hr hlocks hml hown hts hK hN hP hD hS hA hB hE hC htab ls hl => ?_)
  subst hsz
  have hown : s.vm.findClass R_L = some m.cls := hown
  have hT : ∀ w ∈ wG, w ∈ Cond.codeWith y_L_copy b_L_copy 4 (some .int) h_L_copy :: wG := gd_t _
  have hF : CallFix p m c b_L_copy 4 s ([.ref b, .int x, .int y] : List Value).toArray (Cond.codeWith y_L_copy b_L_copy 4 (some .int) h_L_copy :: wG) R_L := ⟨hx, hb, hml, hown, hts⟩
  have hl : lv_has ls 4 [(0, .ref b), (1, .int x), (2, .int y)] := hl
  refine lv_aload_n hx hb d_L_copy_0 rfl (lv_at hl 0 rfl) ?_
  refine lv_iload_n hx hb d_L_copy_1 rfl (lv_at hl 1 rfl) ?_
  refine lv_iload_n hx hb d_L_copy_2 rfl (lv_at hl 2 rfl) ?_
  refine gh_cv (gxc_L_43 (As := [.int x, .int y]) (rest := []) hF hT hM ⟨(Nat.le_of_ble_eq_true rfl), (Nat.le_of_ble_eq_true rfl)⟩ rfl rfl (gx_pre hK hN hP hD hS hB hA hE) hK hP he rfl hl.1 rfl (Nat.le_of_ble_eq_true rfl) d_L_copy_3 ⟨(Nat.le_of_ble_eq_true rfl), (Nat.le_of_ble_eq_true rfl)⟩) hD hS hA (fun Z ce q9 w H locs hw hP hD hS hce hcv hcl => ?_) (fun w H locs hw hP hD hS => ?_)
  · have hz := hxp Z w hw
    subst hz
    refine gh_c1 hF hT hN htab (by decide) hce hcv hcl ?_
    refine lv_astore_n (lv' := [(3, .ref q9), (0, .ref b), (1, .int x), (2, .int y)]) hx hb d_L_copy_9 rfl hl (by decide) rfl (fun ls hl => ?_)
    refine lv_iconst (v := nI 1) hx hb d_L_copy_10 (by decide) ?_
    exact gw_iret hx hb hr hlocks hK hP hD hS (Nat.le_of_ble_eq_true rfl) (Nat.le_of_ble_eq_true rfl) d_L_copy_11 (Or.inr ⟨_, hw, (if_pos rfl).symm⟩)
  · refine lv_goto (tgt := 12) hx hb d_L_copy_6 (by decide) ?_
    refine lv_iconst (v := nI 0) hx hb d_L_copy_12 (by decide) ?_
    exact gw_iret hx hb hr hlocks hK hP hD hS (Nat.le_of_ble_eq_true rfl) (Nat.le_of_ble_eq_true rfl) d_L_copy_13 (Or.inl ⟨rfl, hw⟩)

set_option maxHeartbeats 4000000 in
set_option maxRecDepth 100000 in
theorem hc_set {l : Launch} {D : va_G} {cJ cI cZ cS : ClassId} {ws : va_W} {sz base : Nat} {b q0 bo o : Nat} {fs : List Value} {f : Nat → Int64} {x : Int32} {y : Int32} {z : Int32} {v : Int64} {CP : Int32 → va_W → Prop} {XP : String → va_W → Prop} (he : ws[q0]? = some (b, .inr (2, fs))) (ho : ws[bo]? = some (o, .inl (cJ, 1, .inr (.inl f)))) (hcp : ∀ r w, CP r w → w[bo]? = ws[bo]?) (hxp : ∀ Z w, XP Z w → Z = xIOOB ∨ Z = xIAE ∨ Z = xARI) (hM : vx_Met l y_X_set w_X_set ({ frames := 7, cells := 5, slots := 30, locals := 116 } : Room) (gx_Pc D classes (gT cJ cI cZ cS) [.ref b, .int x, .int y, .int z, .long v] ws sz base) (va_Qi CP (gw_B D classes (gT cJ cI cZ cS) ws sz) (va_A ws sz)) (gX D classes (gT cJ cI cZ cS) ws sz XP) 5 30 (va_A ws sz)) : Met l y_L_set w_L_set ({ frames := 8, cells := 5, slots := 30, locals := 141 } : Room) (gh_Pc D classes (gT cJ cI cZ cS) [.ref b, .int x, .int y, .int z, .long v, .ref o] ws sz base) (va_Qi (hq_i cJ bo o (fun r : Int32 => r.toInt64) CP XP cd_123) (gw_B D classes (gT cJ cI cZ cS) ws sz) (va_A ws sz)) 5 30 (va_A ws sz) := by
  refine gh_head (by decide) (Nat.le_of_ble_eq_true rfl) (fun p e s m below meth c hsz hx hb hr hlocks hml hown hts hK hN hP hD hS hA hB hE hC htab ls hl => ?_)
  subst hsz
  have hown : s.vm.findClass R_L = some m.cls := hown
  have hT : ∀ w ∈ wG, w ∈ Cond.codeWith y_L_set b_L_set 8 (some .int) h_L_set :: wG := gd_t _
  have hF : CallFix p m c b_L_set 8 s ([.ref b, .int x, .int y, .int z, .long v, .ref o] : List Value).toArray (Cond.codeWith y_L_set b_L_set 8 (some .int) h_L_set :: wG) R_L := ⟨hx, hb, hml, hown, hts⟩
  have hl : lv_has ls 8 [(0, .ref b), (1, .int x), (2, .int y), (3, .int z), (4, .long v), (6, .ref o)] := hl
  refine lv_aload hx hb d_L_set_0 (lv_at hl 5 rfl) ?_
  refine lv_iconst (v := nI 0) hx hb d_L_set_2 (by decide) ?_
  refine lv_aload_n hx hb d_L_set_3 rfl (lv_at hl 0 rfl) ?_
  refine lv_iload_n hx hb d_L_set_4 rfl (lv_at hl 1 rfl) ?_
  refine lv_iload_n hx hb d_L_set_5 rfl (lv_at hl 2 rfl) ?_
  refine lv_iload_n hx hb d_L_set_6 rfl (lv_at hl 3 rfl) ?_
  refine lv_lload hx hb d_L_set_7 (lv_at hl 4 rfl) ?_
  refine gh_ci (gxc_L_47 (As := [.int x, .int y, .int z, .long v]) (rest := [.int (nI 0), .ref o]) hF hT hM ⟨(Nat.le_of_ble_eq_true rfl), (Nat.le_of_ble_eq_true rfl)⟩ rfl rfl (gx_pre hK hN hP hD hS hB hA hE) hK hP he rfl hl.1 rfl (Nat.le_of_ble_eq_true rfl) d_L_set_9 ⟨(Nat.le_of_ble_eq_true rfl), (Nat.le_of_ble_eq_true rfl)⟩) hD hS hA (fun Z ce q9 w H locs hw hP hD hS hce hcv hcl => ?_) (fun r w H locs hw hP hD hS => ?_)
  · have hz := hxp Z w hw
    rcases hz with rfl | rfl | rfl
    · refine gh_c1 hF hT hN htab (by decide) hce hcv hcl ?_
      refine lv_astore (lv' := [(7, .ref q9), (0, .ref b), (1, .int x), (2, .int y), (3, .int z), (4, .long v), (6, .ref o)]) hx hb d_L_set_17 hl (by decide) rfl (fun ls hl => ?_)
      refine lv_iconst (v := nI 1) hx hb d_L_set_19 (by decide) ?_
      exact gw_iret hx hb hr hlocks hK hP hD hS (Nat.le_of_ble_eq_true rfl) (Nat.le_of_ble_eq_true rfl) d_L_set_20 (Or.inr ⟨_, hw, (if_pos rfl).symm⟩)
    · refine gh_c2 hF hT hN hC htab (by decide) hce hcv hcl ?_
      refine lv_astore (lv' := [(7, .ref q9), (0, .ref b), (1, .int x), (2, .int y), (3, .int z), (4, .long v), (6, .ref o)]) hx hb d_L_set_21 hl (by decide) rfl (fun ls hl => ?_)
      refine lv_iconst (v := nI 2) hx hb d_L_set_23 (by decide) ?_
      exact gw_iret hx hb hr hlocks hK hP hD hS (Nat.le_of_ble_eq_true rfl) (Nat.le_of_ble_eq_true rfl) d_L_set_24 (Or.inr ⟨_, hw, ((if_neg (by decide)).trans (if_pos rfl)).symm⟩)
    · refine gh_c3 hF hT hN hC htab (by decide) hce hcv hcl ?_
      refine lv_astore (lv' := [(7, .ref q9), (0, .ref b), (1, .int x), (2, .int y), (3, .int z), (4, .long v), (6, .ref o)]) hx hb d_L_set_25 hl (by decide) rfl (fun ls hl => ?_)
      refine lv_iconst (v := nI 3) hx hb d_L_set_27 (by decide) ?_
      exact gw_iret hx hb hr hlocks hK hP hD hS (Nat.le_of_ble_eq_true rfl) (Nat.le_of_ble_eq_true rfl) d_L_set_28 (Or.inr ⟨_, hw, ((if_neg (by decide)).trans (if_neg (by decide))).symm⟩)
  · have ho1 := (hcp r w hw).trans ho
    refine lv_i2l (v := r.toInt64) hx hb d_L_set_12 rfl ?_
    refine g_last (t0 := 0) (k := 0) hx hb hK hP hD hS ho1 rfl (by omega) (by omega) d_L_set_13 (fun w2 H locs ho2 hf hP hD hS => ?_)
    refine lv_goto (tgt := 29) hx hb d_L_set_14 (by decide) ?_
    refine lv_iconst (v := nI 0) hx hb d_L_set_29 (by decide) ?_
    exact gw_iret hx hb hr hlocks hK hP hD hS (Nat.le_of_ble_eq_true rfl) (Nat.le_of_ble_eq_true rfl) d_L_set_30 (Or.inl ⟨rfl, r, w, f, hw, ho2, hf⟩)

set_option maxHeartbeats 4000000 in
set_option maxRecDepth 100000 in
theorem hc_forget {l : Launch} {D : va_G} {cJ cI cZ cS : ClassId} {ws : va_W} {sz base : Nat} {b q0 bo o : Nat} {fs : List Value} {f : Nat → Int64} {x : Int32} {y : Int32} {CP : Int32 → va_W → Prop} {XP : String → va_W → Prop} (he : ws[q0]? = some (b, .inr (2, fs))) (ho : ws[bo]? = some (o, .inl (cJ, 1, .inr (.inl f)))) (hcp : ∀ r w, CP r w → w[bo]? = ws[bo]?) (hxp : ∀ Z w, XP Z w → Z = xIOOB) (hM : vx_Met l y_X_forget w_X_forget ({ frames := 7, cells := 3, slots := 18, locals := 111 } : Room) (gx_Pc D classes (gT cJ cI cZ cS) [.ref b, .int x, .int y] ws sz base) (va_Qi CP (gw_B D classes (gT cJ cI cZ cS) ws sz) (va_A ws sz)) (gX D classes (gT cJ cI cZ cS) ws sz XP) 3 18 (va_A ws sz)) : Met l y_L_forget w_L_forget ({ frames := 8, cells := 3, slots := 18, locals := 133 } : Room) (gh_Pc D classes (gT cJ cI cZ cS) [.ref b, .int x, .int y, .ref o] ws sz base) (va_Qi (hq_i cJ bo o (fun r : Int32 => r.toInt64) CP XP cd_1) (gw_B D classes (gT cJ cI cZ cS) ws sz) (va_A ws sz)) 3 18 (va_A ws sz) := by
  refine gh_head (by decide) (Nat.le_of_ble_eq_true rfl) (fun p e s m below meth c hsz hx hb hr hlocks hml hown hts hK hN hP hD hS hA hB hE hC htab ls hl => ?_)
  subst hsz
  have hown : s.vm.findClass R_L = some m.cls := hown
  have hT : ∀ w ∈ wG, w ∈ Cond.codeWith y_L_forget b_L_forget 5 (some .int) h_L_forget :: wG := gd_t _
  have hF : CallFix p m c b_L_forget 5 s ([.ref b, .int x, .int y, .ref o] : List Value).toArray (Cond.codeWith y_L_forget b_L_forget 5 (some .int) h_L_forget :: wG) R_L := ⟨hx, hb, hml, hown, hts⟩
  have hl : lv_has ls 5 [(0, .ref b), (1, .int x), (2, .int y), (3, .ref o)] := hl
  refine lv_aload_n hx hb d_L_forget_0 rfl (lv_at hl 3 rfl) ?_
  refine lv_iconst (v := nI 0) hx hb d_L_forget_1 (by decide) ?_
  refine lv_aload_n hx hb d_L_forget_2 rfl (lv_at hl 0 rfl) ?_
  refine lv_iload_n hx hb d_L_forget_3 rfl (lv_at hl 1 rfl) ?_
  refine lv_iload_n hx hb d_L_forget_4 rfl (lv_at hl 2 rfl) ?_
  refine gh_ci (gxc_L_50 (As := [.int x, .int y]) (rest := [.int (nI 0), .ref o]) hF hT hM ⟨(Nat.le_of_ble_eq_true rfl), (Nat.le_of_ble_eq_true rfl)⟩ rfl rfl (gx_pre hK hN hP hD hS hB hA hE) hK hP he rfl hl.1 rfl (Nat.le_of_ble_eq_true rfl) d_L_forget_5 ⟨(Nat.le_of_ble_eq_true rfl), (Nat.le_of_ble_eq_true rfl)⟩) hD hS hA (fun Z ce q9 w H locs hw hP hD hS hce hcv hcl => ?_) (fun r w H locs hw hP hD hS => ?_)
  · have hz := hxp Z w hw
    subst hz
    refine gh_c1 hF hT hN htab (by decide) hce hcv hcl ?_
    refine lv_astore (lv' := [(4, .ref q9), (0, .ref b), (1, .int x), (2, .int y), (3, .ref o)]) hx hb d_L_forget_13 hl (by decide) rfl (fun ls hl => ?_)
    refine lv_iconst (v := nI 1) hx hb d_L_forget_15 (by decide) ?_
    exact gw_iret hx hb hr hlocks hK hP hD hS (Nat.le_of_ble_eq_true rfl) (Nat.le_of_ble_eq_true rfl) d_L_forget_16 (Or.inr ⟨_, hw, (if_pos rfl).symm⟩)
  · have ho1 := (hcp r w hw).trans ho
    refine lv_i2l (v := r.toInt64) hx hb d_L_forget_8 rfl ?_
    refine g_last (t0 := 0) (k := 0) hx hb hK hP hD hS ho1 rfl (by omega) (by omega) d_L_forget_9 (fun w2 H locs ho2 hf hP hD hS => ?_)
    refine lv_goto (tgt := 17) hx hb d_L_forget_10 (by decide) ?_
    refine lv_iconst (v := nI 0) hx hb d_L_forget_17 (by decide) ?_
    exact gw_iret hx hb hr hlocks hK hP hD hS (Nat.le_of_ble_eq_true rfl) (Nat.le_of_ble_eq_true rfl) d_L_forget_18 (Or.inl ⟨rfl, r, w, f, hw, ho2, hf⟩)

set_option maxHeartbeats 4000000 in
set_option maxRecDepth 100000 in
theorem hc_within {l : Launch} {D : va_G} {cJ cI cZ cS : ClassId} {ws : va_W} {sz base : Nat} {b q0 bo o : Nat} {fs : List Value} {f : Nat → Int64} {x : Int32} {y : Int32} {CP : Int32 → va_W → Prop} {XP : String → va_W → Prop} (he : ws[q0]? = some (b, .inr (2, fs))) (ho : ws[bo]? = some (o, .inl (cJ, 1, .inr (.inl f)))) (hcp : ∀ r w, CP r w → w[bo]? = ws[bo]?) (hxp : ∀ Z w, XP Z w → Z = xIOOB) (hM : vx_Met l y_X_within w_X_within ({ frames := 7, cells := 2, slots := 12, locals := 110 } : Room) (gx_Pc D classes (gT cJ cI cZ cS) [.ref b, .int x, .int y] ws sz base) (va_Qi CP (gw_B D classes (gT cJ cI cZ cS) ws sz) (va_A ws sz)) (gX D classes (gT cJ cI cZ cS) ws sz XP) 2 12 (va_A ws sz)) : Met l y_L_within w_L_within ({ frames := 8, cells := 2, slots := 12, locals := 132 } : Room) (gh_Pc D classes (gT cJ cI cZ cS) [.ref b, .int x, .int y, .ref o] ws sz base) (va_Qi (hq_i cJ bo o hb_z CP XP cd_1) (gw_B D classes (gT cJ cI cZ cS) ws sz) (va_A ws sz)) 2 12 (va_A ws sz) := by
  refine gh_head (by decide) (Nat.le_of_ble_eq_true rfl) (fun p e s m below meth c hsz hx hb hr hlocks hml hown hts hK hN hP hD hS hA hB hE hC htab ls hl => ?_)
  subst hsz
  have hown : s.vm.findClass R_L = some m.cls := hown
  have hT : ∀ w ∈ wG, w ∈ Cond.codeWith y_L_within b_L_within 5 (some .int) h_L_within :: wG := gd_t _
  have hF : CallFix p m c b_L_within 5 s ([.ref b, .int x, .int y, .ref o] : List Value).toArray (Cond.codeWith y_L_within b_L_within 5 (some .int) h_L_within :: wG) R_L := ⟨hx, hb, hml, hown, hts⟩
  have hl : lv_has ls 5 [(0, .ref b), (1, .int x), (2, .int y), (3, .ref o)] := hl
  refine lv_aload_n hx hb d_L_within_0 rfl (lv_at hl 3 rfl) ?_
  refine lv_iconst (v := nI 0) hx hb d_L_within_1 (by decide) ?_
  refine lv_aload_n hx hb d_L_within_2 rfl (lv_at hl 0 rfl) ?_
  refine lv_iload_n hx hb d_L_within_3 rfl (lv_at hl 1 rfl) ?_
  refine lv_iload_n hx hb d_L_within_4 rfl (lv_at hl 2 rfl) ?_
  refine gh_ci (gxc_L_54 (As := [.int x, .int y]) (rest := [.int (nI 0), .ref o]) hF hT hM ⟨(Nat.le_of_ble_eq_true rfl), (Nat.le_of_ble_eq_true rfl)⟩ rfl rfl (gx_pre hK hN hP hD hS hB hA hE) hK hP he rfl hl.1 rfl (Nat.le_of_ble_eq_true rfl) d_L_within_5 ⟨(Nat.le_of_ble_eq_true rfl), (Nat.le_of_ble_eq_true rfl)⟩) hD hS hA (fun Z ce q9 w H locs hw hP hD hS hce hcv hcl => ?_) (fun r w H locs hw hP hD hS => ?_)
  · have hz := hxp Z w hw
    subst hz
    refine gh_c1 hF hT hN htab (by decide) hce hcv hcl ?_
    refine lv_astore (lv' := [(4, .ref q9), (0, .ref b), (1, .int x), (2, .int y), (3, .ref o)]) hx hb d_L_within_20 hl (by decide) rfl (fun ls hl => ?_)
    refine lv_iconst (v := nI 1) hx hb d_L_within_22 (by decide) ?_
    exact gw_iret hx hb hr hlocks hK hP hD hS (Nat.le_of_ble_eq_true rfl) (Nat.le_of_ble_eq_true rfl) d_L_within_23 (Or.inr ⟨_, hw, (if_pos rfl).symm⟩)
  · have ho1 := (hcp r w hw).trans ho
    refine lv_if_eq (tgt := 15) hx hb d_L_within_8 (by decide) (fun c1 => ?_) (fun c1 => ?_)
    · refine lv_lconst (v := 0) hx hb d_L_within_15 rfl ?_
      refine g_last (t0 := 0) (k := 0) hx hb hK hP hD hS ho1 rfl (by omega) (by omega) d_L_within_16 (fun w2 H locs ho2 hf hP hD hS => ?_)
      refine lv_goto (tgt := 24) hx hb d_L_within_17 (by decide) ?_
      refine lv_iconst (v := nI 0) hx hb d_L_within_24 (by decide) ?_
      exact gw_iret hx hb hr hlocks hK hP hD hS (Nat.le_of_ble_eq_true rfl) (Nat.le_of_ble_eq_true rfl) d_L_within_25 (Or.inl ⟨rfl, r, w, f, hw, by rw [show hb_z r = 0 from if_pos c1]; exact ho2, hf⟩)
    · refine lv_lconst (v := 1) hx hb d_L_within_11 rfl ?_
      refine lv_goto (tgt := 16) hx hb d_L_within_12 (by decide) ?_
      refine g_last (t0 := 0) (k := 0) hx hb hK hP hD hS ho1 rfl (by omega) (by omega) d_L_within_16 (fun w2 H locs ho2 hf hP hD hS => ?_)
      refine lv_goto (tgt := 24) hx hb d_L_within_17 (by decide) ?_
      refine lv_iconst (v := nI 0) hx hb d_L_within_24 (by decide) ?_
      exact gw_iret hx hb hr hlocks hK hP hD hS (Nat.le_of_ble_eq_true rfl) (Nat.le_of_ble_eq_true rfl) d_L_within_25 (Or.inl ⟨rfl, r, w, f, hw, by rw [show hb_z r = 1 from if_neg c1]; exact ho2, hf⟩)

set_option maxHeartbeats 4000000 in
set_option maxRecDepth 100000 in
theorem hc_put {l : Launch} {D : va_G} {cJ cI cZ cS : ClassId} {ws : va_W} {sz base : Nat} {b q0 bo o : Nat} {fs : List Value} {f : Nat → Int64} {x : Int32} {v : Int64} {CP : Int64 → va_W → Prop} {XP : String → va_W → Prop} (he : ws[q0]? = some (b, .inr (2, fs))) (ho : ws[bo]? = some (o, .inl (cJ, 1, .inr (.inl f)))) (hcp : ∀ r w, CP r w → w[bo]? = ws[bo]?) (hxp : ∀ Z w, XP Z w → Z = xIOOB ∨ Z = xIAE) (hM : vx_Met l y_X_put w_X_put ({ frames := 7, cells := 2, slots := 12, locals := 111 } : Room) (gx_Pc D classes (gT cJ cI cZ cS) [.ref b, .int x, .long v] ws sz base) (va_Ql CP (gw_B D classes (gT cJ cI cZ cS) ws sz) (va_A ws sz)) (gX D classes (gT cJ cI cZ cS) ws sz XP) 2 12 (va_A ws sz)) : Met l y_L_put w_L_put ({ frames := 8, cells := 2, slots := 12, locals := 136 } : Room) (gh_Pc D classes (gT cJ cI cZ cS) [.ref b, .int x, .long v, .ref o] ws sz base) (va_Qi (hq_i cJ bo o (fun r : Int64 => r) CP XP cd_12) (gw_B D classes (gT cJ cI cZ cS) ws sz) (va_A ws sz)) 2 12 (va_A ws sz) := by
  refine gh_head (by decide) (Nat.le_of_ble_eq_true rfl) (fun p e s m below meth c hsz hx hb hr hlocks hml hown hts hK hN hP hD hS hA hB hE hC htab ls hl => ?_)
  subst hsz
  have hown : s.vm.findClass R_L = some m.cls := hown
  have hT : ∀ w ∈ wG, w ∈ Cond.codeWith y_L_put b_L_put 6 (some .int) h_L_put :: wG := gd_t _
  have hF : CallFix p m c b_L_put 6 s ([.ref b, .int x, .long v, .ref o] : List Value).toArray (Cond.codeWith y_L_put b_L_put 6 (some .int) h_L_put :: wG) R_L := ⟨hx, hb, hml, hown, hts⟩
  have hl : lv_has ls 6 [(0, .ref b), (1, .int x), (2, .long v), (4, .ref o)] := hl
  refine lv_aload hx hb d_L_put_0 (lv_at hl 3 rfl) ?_
  refine lv_iconst (v := nI 0) hx hb d_L_put_2 (by decide) ?_
  refine lv_aload_n hx hb d_L_put_3 rfl (lv_at hl 0 rfl) ?_
  refine lv_iload_n hx hb d_L_put_4 rfl (lv_at hl 1 rfl) ?_
  refine lv_lload_n hx hb d_L_put_5 rfl (lv_at hl 2 rfl) ?_
  refine gh_cl (gxc_L_58 (As := [.int x, .long v]) (rest := [.int (nI 0), .ref o]) hF hT hM ⟨(Nat.le_of_ble_eq_true rfl), (Nat.le_of_ble_eq_true rfl)⟩ rfl rfl (gx_pre hK hN hP hD hS hB hA hE) hK hP he rfl hl.1 rfl (Nat.le_of_ble_eq_true rfl) d_L_put_6 ⟨(Nat.le_of_ble_eq_true rfl), (Nat.le_of_ble_eq_true rfl)⟩) hD hS hA (fun Z ce q9 w H locs hw hP hD hS hce hcv hcl => ?_) (fun r w H locs hw hP hD hS => ?_)
  · have hz := hxp Z w hw
    rcases hz with rfl | rfl
    · refine gh_c1 hF hT hN htab (by decide) hce hcv hcl ?_
      refine lv_astore (lv' := [(5, .ref q9), (0, .ref b), (1, .int x), (2, .long v), (4, .ref o)]) hx hb d_L_put_13 hl (by decide) rfl (fun ls hl => ?_)
      refine lv_iconst (v := nI 1) hx hb d_L_put_15 (by decide) ?_
      exact gw_iret hx hb hr hlocks hK hP hD hS (Nat.le_of_ble_eq_true rfl) (Nat.le_of_ble_eq_true rfl) d_L_put_16 (Or.inr ⟨_, hw, (if_pos rfl).symm⟩)
    · refine gh_c2 hF hT hN hC htab (by decide) hce hcv hcl ?_
      refine lv_astore (lv' := [(5, .ref q9), (0, .ref b), (1, .int x), (2, .long v), (4, .ref o)]) hx hb d_L_put_17 hl (by decide) rfl (fun ls hl => ?_)
      refine lv_iconst (v := nI 2) hx hb d_L_put_19 (by decide) ?_
      exact gw_iret hx hb hr hlocks hK hP hD hS (Nat.le_of_ble_eq_true rfl) (Nat.le_of_ble_eq_true rfl) d_L_put_20 (Or.inr ⟨_, hw, (if_neg (by decide)).symm⟩)
  · have ho1 := (hcp r w hw).trans ho
    refine g_last (t0 := 0) (k := 0) hx hb hK hP hD hS ho1 rfl (by omega) (by omega) d_L_put_9 (fun w2 H locs ho2 hf hP hD hS => ?_)
    refine lv_goto (tgt := 21) hx hb d_L_put_10 (by decide) ?_
    refine lv_iconst (v := nI 0) hx hb d_L_put_21 (by decide) ?_
    exact gw_iret hx hb hr hlocks hK hP hD hS (Nat.le_of_ble_eq_true rfl) (Nat.le_of_ble_eq_true rfl) d_L_put_22 (Or.inl ⟨rfl, r, w, f, hw, ho2, hf⟩)

set_option maxHeartbeats 4000000 in
set_option maxRecDepth 100000 in
theorem hc_point {l : Launch} {D : va_G} {cJ cI cZ cS : ClassId} {ws : va_W} {sz base : Nat} {b q0 bo o : Nat} {fs : List Value} {f : Nat → Int64} {x : Int32} {CP : Int64 → va_W → Prop} {XP : String → va_W → Prop} (he : ws[q0]? = some (b, .inr (2, fs))) (ho : ws[bo]? = some (o, .inl (cJ, 1, .inr (.inl f)))) (hcp : ∀ r w, CP r w → w[bo]? = ws[bo]?) (hxp : ∀ Z w, XP Z w → Z = xIOOB) (hM : vx_Met l y_X_point w_X_point ({ frames := 7, cells := 1, slots := 6, locals := 111 } : Room) (gx_Pc D classes (gT cJ cI cZ cS) [.ref b, .int x] ws sz base) (va_Ql CP (gw_B D classes (gT cJ cI cZ cS) ws sz) (va_A ws sz)) (gX D classes (gT cJ cI cZ cS) ws sz XP) 1 6 (va_A ws sz)) : Met l y_L_point w_L_point ({ frames := 8, cells := 1, slots := 6, locals := 132 } : Room) (gh_Pc D classes (gT cJ cI cZ cS) [.ref b, .int x, .ref o] ws sz base) (va_Qi (hq_i cJ bo o (fun r : Int64 => r) CP XP cd_1) (gw_B D classes (gT cJ cI cZ cS) ws sz) (va_A ws sz)) 1 6 (va_A ws sz) := by
  refine gh_head (by decide) (Nat.le_of_ble_eq_true rfl) (fun p e s m below meth c hsz hx hb hr hlocks hml hown hts hK hN hP hD hS hA hB hE hC htab ls hl => ?_)
  subst hsz
  have hown : s.vm.findClass R_L = some m.cls := hown
  have hT : ∀ w ∈ wG, w ∈ Cond.codeWith y_L_point b_L_point 4 (some .int) h_L_point :: wG := gd_t _
  have hF : CallFix p m c b_L_point 4 s ([.ref b, .int x, .ref o] : List Value).toArray (Cond.codeWith y_L_point b_L_point 4 (some .int) h_L_point :: wG) R_L := ⟨hx, hb, hml, hown, hts⟩
  have hl : lv_has ls 4 [(0, .ref b), (1, .int x), (2, .ref o)] := hl
  refine lv_aload_n hx hb d_L_point_0 rfl (lv_at hl 2 rfl) ?_
  refine lv_iconst (v := nI 0) hx hb d_L_point_1 (by decide) ?_
  refine lv_aload_n hx hb d_L_point_2 rfl (lv_at hl 0 rfl) ?_
  refine lv_iload_n hx hb d_L_point_3 rfl (lv_at hl 1 rfl) ?_
  refine gh_cl (gxc_L_62 (As := [.int x]) (rest := [.int (nI 0), .ref o]) hF hT hM ⟨(Nat.le_of_ble_eq_true rfl), (Nat.le_of_ble_eq_true rfl)⟩ rfl rfl (gx_pre hK hN hP hD hS hB hA hE) hK hP he rfl hl.1 rfl (Nat.le_of_ble_eq_true rfl) d_L_point_4 ⟨(Nat.le_of_ble_eq_true rfl), (Nat.le_of_ble_eq_true rfl)⟩) hD hS hA (fun Z ce q9 w H locs hw hP hD hS hce hcv hcl => ?_) (fun r w H locs hw hP hD hS => ?_)
  · have hz := hxp Z w hw
    subst hz
    refine gh_c1 hF hT hN htab (by decide) hce hcv hcl ?_
    refine lv_astore_n (lv' := [(3, .ref q9), (0, .ref b), (1, .int x), (2, .ref o)]) hx hb d_L_point_11 rfl hl (by decide) rfl (fun ls hl => ?_)
    refine lv_iconst (v := nI 1) hx hb d_L_point_12 (by decide) ?_
    exact gw_iret hx hb hr hlocks hK hP hD hS (Nat.le_of_ble_eq_true rfl) (Nat.le_of_ble_eq_true rfl) d_L_point_13 (Or.inr ⟨_, hw, (if_pos rfl).symm⟩)
  · have ho1 := (hcp r w hw).trans ho
    refine g_last (t0 := 0) (k := 0) hx hb hK hP hD hS ho1 rfl (by omega) (by omega) d_L_point_7 (fun w2 H locs ho2 hf hP hD hS => ?_)
    refine lv_goto (tgt := 14) hx hb d_L_point_8 (by decide) ?_
    refine lv_iconst (v := nI 0) hx hb d_L_point_14 (by decide) ?_
    exact gw_iret hx hb hr hlocks hK hP hD hS (Nat.le_of_ble_eq_true rfl) (Nat.le_of_ble_eq_true rfl) d_L_point_15 (Or.inl ⟨rfl, r, w, f, hw, ho2, hf⟩)

set_option maxHeartbeats 4000000 in
set_option maxRecDepth 100000 in
theorem hc_has {l : Launch} {D : va_G} {cJ cI cZ cS : ClassId} {ws : va_W} {sz base : Nat} {b q0 bo o : Nat} {fs : List Value} {f : Nat → Int64} {x : Int32} {CP : Int32 → va_W → Prop} {XP : String → va_W → Prop} (he : ws[q0]? = some (b, .inr (2, fs))) (ho : ws[bo]? = some (o, .inl (cJ, 1, .inr (.inl f)))) (hcp : ∀ r w, CP r w → w[bo]? = ws[bo]?) (hxp : ∀ Z w, XP Z w → Z = xIOOB) (hM : vx_Met l y_X_has w_X_has ({ frames := 7, cells := 1, slots := 6, locals := 110 } : Room) (gx_Pc D classes (gT cJ cI cZ cS) [.ref b, .int x] ws sz base) (va_Qi CP (gw_B D classes (gT cJ cI cZ cS) ws sz) (va_A ws sz)) (gX D classes (gT cJ cI cZ cS) ws sz XP) 1 6 (va_A ws sz)) : Met l y_L_has w_L_has ({ frames := 8, cells := 1, slots := 6, locals := 133 } : Room) (gh_Pc D classes (gT cJ cI cZ cS) [.ref b, .int x, .ref o] ws sz base) (va_Qi (hq_i cJ bo o hb_z CP XP cd_1) (gw_B D classes (gT cJ cI cZ cS) ws sz) (va_A ws sz)) 1 6 (va_A ws sz) := by
  refine gh_head (by decide) (Nat.le_of_ble_eq_true rfl) (fun p e s m below meth c hsz hx hb hr hlocks hml hown hts hK hN hP hD hS hA hB hE hC htab ls hl => ?_)
  subst hsz
  have hown : s.vm.findClass R_L = some m.cls := hown
  have hT : ∀ w ∈ wG, w ∈ Cond.codeWith y_L_has b_L_has 4 (some .int) h_L_has :: wG := gd_t _
  have hF : CallFix p m c b_L_has 4 s ([.ref b, .int x, .ref o] : List Value).toArray (Cond.codeWith y_L_has b_L_has 4 (some .int) h_L_has :: wG) R_L := ⟨hx, hb, hml, hown, hts⟩
  have hl : lv_has ls 4 [(0, .ref b), (1, .int x), (2, .ref o)] := hl
  refine lv_aload_n hx hb d_L_has_0 rfl (lv_at hl 2 rfl) ?_
  refine lv_iconst (v := nI 0) hx hb d_L_has_1 (by decide) ?_
  refine lv_aload_n hx hb d_L_has_2 rfl (lv_at hl 0 rfl) ?_
  refine lv_iload_n hx hb d_L_has_3 rfl (lv_at hl 1 rfl) ?_
  refine gh_ci (gxc_L_66 (As := [.int x]) (rest := [.int (nI 0), .ref o]) hF hT hM ⟨(Nat.le_of_ble_eq_true rfl), (Nat.le_of_ble_eq_true rfl)⟩ rfl rfl (gx_pre hK hN hP hD hS hB hA hE) hK hP he rfl hl.1 rfl (Nat.le_of_ble_eq_true rfl) d_L_has_4 ⟨(Nat.le_of_ble_eq_true rfl), (Nat.le_of_ble_eq_true rfl)⟩) hD hS hA (fun Z ce q9 w H locs hw hP hD hS hce hcv hcl => ?_) (fun r w H locs hw hP hD hS => ?_)
  · have hz := hxp Z w hw
    subst hz
    refine gh_c1 hF hT hN htab (by decide) hce hcv hcl ?_
    refine lv_astore_n (lv' := [(3, .ref q9), (0, .ref b), (1, .int x), (2, .ref o)]) hx hb d_L_has_19 rfl hl (by decide) rfl (fun ls hl => ?_)
    refine lv_iconst (v := nI 1) hx hb d_L_has_20 (by decide) ?_
    exact gw_iret hx hb hr hlocks hK hP hD hS (Nat.le_of_ble_eq_true rfl) (Nat.le_of_ble_eq_true rfl) d_L_has_21 (Or.inr ⟨_, hw, (if_pos rfl).symm⟩)
  · have ho1 := (hcp r w hw).trans ho
    refine lv_if_eq (tgt := 14) hx hb d_L_has_7 (by decide) (fun c1 => ?_) (fun c1 => ?_)
    · refine lv_lconst (v := 0) hx hb d_L_has_14 rfl ?_
      refine g_last (t0 := 0) (k := 0) hx hb hK hP hD hS ho1 rfl (by omega) (by omega) d_L_has_15 (fun w2 H locs ho2 hf hP hD hS => ?_)
      refine lv_goto (tgt := 22) hx hb d_L_has_16 (by decide) ?_
      refine lv_iconst (v := nI 0) hx hb d_L_has_22 (by decide) ?_
      exact gw_iret hx hb hr hlocks hK hP hD hS (Nat.le_of_ble_eq_true rfl) (Nat.le_of_ble_eq_true rfl) d_L_has_23 (Or.inl ⟨rfl, r, w, f, hw, by rw [show hb_z r = 0 from if_pos c1]; exact ho2, hf⟩)
    · refine lv_lconst (v := 1) hx hb d_L_has_10 rfl ?_
      refine lv_goto (tgt := 15) hx hb d_L_has_11 (by decide) ?_
      refine g_last (t0 := 0) (k := 0) hx hb hK hP hD hS ho1 rfl (by omega) (by omega) d_L_has_15 (fun w2 H locs ho2 hf hP hD hS => ?_)
      refine lv_goto (tgt := 22) hx hb d_L_has_16 (by decide) ?_
      refine lv_iconst (v := nI 0) hx hb d_L_has_22 (by decide) ?_
      exact gw_iret hx hb hr hlocks hK hP hD hS (Nat.le_of_ble_eq_true rfl) (Nat.le_of_ble_eq_true rfl) d_L_has_23 (Or.inl ⟨rfl, r, w, f, hw, by rw [show hb_z r = 1 from if_neg c1]; exact ho2, hf⟩)

set_option maxHeartbeats 4000000 in
set_option maxRecDepth 100000 in
theorem hc_sample {l : Launch} {D : va_G} {cJ cI cZ cS : ClassId} {ws : va_W} {sz base : Nat} {b q0 bo o : Nat} {fs : List Value} {f : Nat → Int64} {x : Int32} {CP : Int32 → va_W → Prop} {XP : String → va_W → Prop} (he : ws[q0]? = some (b, .inr (2, fs))) (ho : ws[bo]? = some (o, .inl (cJ, 1, .inr (.inl f)))) (hcp : ∀ r w, CP r w → w[bo]? = ws[bo]?) (hxp : ∀ Z w, XP Z w → Z = xIOOB) (hM : vx_Met l y_X_sample w_X_sample ({ frames := 7, cells := 1, slots := 6, locals := 110 } : Room) (gx_Pc D classes (gT cJ cI cZ cS) [.ref b, .int x] ws sz base) (va_Qi CP (gw_B D classes (gT cJ cI cZ cS) ws sz) (va_A ws sz)) (gX D classes (gT cJ cI cZ cS) ws sz XP) 1 6 (va_A ws sz)) : Met l y_L_sample w_L_sample ({ frames := 8, cells := 1, slots := 6, locals := 132 } : Room) (gh_Pc D classes (gT cJ cI cZ cS) [.ref b, .int x, .ref o] ws sz base) (va_Qi (hq_i cJ bo o hb_z CP XP cd_1) (gw_B D classes (gT cJ cI cZ cS) ws sz) (va_A ws sz)) 1 6 (va_A ws sz) := by
  refine gh_head (by decide) (Nat.le_of_ble_eq_true rfl) (fun p e s m below meth c hsz hx hb hr hlocks hml hown hts hK hN hP hD hS hA hB hE hC htab ls hl => ?_)
  subst hsz
  have hown : s.vm.findClass R_L = some m.cls := hown
  have hT : ∀ w ∈ wG, w ∈ Cond.codeWith y_L_sample b_L_sample 4 (some .int) h_L_sample :: wG := gd_t _
  have hF : CallFix p m c b_L_sample 4 s ([.ref b, .int x, .ref o] : List Value).toArray (Cond.codeWith y_L_sample b_L_sample 4 (some .int) h_L_sample :: wG) R_L := ⟨hx, hb, hml, hown, hts⟩
  have hl : lv_has ls 4 [(0, .ref b), (1, .int x), (2, .ref o)] := hl
  refine lv_aload_n hx hb d_L_sample_0 rfl (lv_at hl 2 rfl) ?_
  refine lv_iconst (v := nI 0) hx hb d_L_sample_1 (by decide) ?_
  refine lv_aload_n hx hb d_L_sample_2 rfl (lv_at hl 0 rfl) ?_
  refine lv_iload_n hx hb d_L_sample_3 rfl (lv_at hl 1 rfl) ?_
  refine gh_ci (gxc_L_70 (As := [.int x]) (rest := [.int (nI 0), .ref o]) hF hT hM ⟨(Nat.le_of_ble_eq_true rfl), (Nat.le_of_ble_eq_true rfl)⟩ rfl rfl (gx_pre hK hN hP hD hS hB hA hE) hK hP he rfl hl.1 rfl (Nat.le_of_ble_eq_true rfl) d_L_sample_4 ⟨(Nat.le_of_ble_eq_true rfl), (Nat.le_of_ble_eq_true rfl)⟩) hD hS hA (fun Z ce q9 w H locs hw hP hD hS hce hcv hcl => ?_) (fun r w H locs hw hP hD hS => ?_)
  · have hz := hxp Z w hw
    subst hz
    refine gh_c1 hF hT hN htab (by decide) hce hcv hcl ?_
    refine lv_astore_n (lv' := [(3, .ref q9), (0, .ref b), (1, .int x), (2, .ref o)]) hx hb d_L_sample_19 rfl hl (by decide) rfl (fun ls hl => ?_)
    refine lv_iconst (v := nI 1) hx hb d_L_sample_20 (by decide) ?_
    exact gw_iret hx hb hr hlocks hK hP hD hS (Nat.le_of_ble_eq_true rfl) (Nat.le_of_ble_eq_true rfl) d_L_sample_21 (Or.inr ⟨_, hw, (if_pos rfl).symm⟩)
  · have ho1 := (hcp r w hw).trans ho
    refine lv_if_eq (tgt := 14) hx hb d_L_sample_7 (by decide) (fun c1 => ?_) (fun c1 => ?_)
    · refine lv_lconst (v := 0) hx hb d_L_sample_14 rfl ?_
      refine g_last (t0 := 0) (k := 0) hx hb hK hP hD hS ho1 rfl (by omega) (by omega) d_L_sample_15 (fun w2 H locs ho2 hf hP hD hS => ?_)
      refine lv_goto (tgt := 22) hx hb d_L_sample_16 (by decide) ?_
      refine lv_iconst (v := nI 0) hx hb d_L_sample_22 (by decide) ?_
      exact gw_iret hx hb hr hlocks hK hP hD hS (Nat.le_of_ble_eq_true rfl) (Nat.le_of_ble_eq_true rfl) d_L_sample_23 (Or.inl ⟨rfl, r, w, f, hw, by rw [show hb_z r = 0 from if_pos c1]; exact ho2, hf⟩)
    · refine lv_lconst (v := 1) hx hb d_L_sample_10 rfl ?_
      refine lv_goto (tgt := 15) hx hb d_L_sample_11 (by decide) ?_
      refine g_last (t0 := 0) (k := 0) hx hb hK hP hD hS ho1 rfl (by omega) (by omega) d_L_sample_15 (fun w2 H locs ho2 hf hP hD hS => ?_)
      refine lv_goto (tgt := 22) hx hb d_L_sample_16 (by decide) ?_
      refine lv_iconst (v := nI 0) hx hb d_L_sample_22 (by decide) ?_
      exact gw_iret hx hb hr hlocks hK hP hD hS (Nat.le_of_ble_eq_true rfl) (Nat.le_of_ble_eq_true rfl) d_L_sample_23 (Or.inl ⟨rfl, r, w, f, hw, by rw [show hb_z r = 1 from if_neg c1]; exact ho2, hf⟩)

set_option maxHeartbeats 4000000 in
set_option maxRecDepth 100000 in
theorem hc_needed {l : Launch} {D : va_G} {cJ cI cZ cS : ClassId} {ws : va_W} {sz base : Nat} {b q0 bo o : Nat} {fs : List Value} {f : Nat → Int64} {x : Int32} {CP : Int32 → va_W → Prop} {XP : String → va_W → Prop} (he : ws[q0]? = some (b, .inr (2, fs))) (ho : ws[bo]? = some (o, .inl (cJ, 1, .inr (.inl f)))) (hcp : ∀ r w, CP r w → w[bo]? = ws[bo]?) (hxp : ∀ Z w, XP Z w → Z = xIOOB) (hM : vx_Met l y_X_needed w_X_needed ({ frames := 7, cells := 1, slots := 6, locals := 137 } : Room) (gx_Pc D classes (gT cJ cI cZ cS) [.ref b, .int x] ws sz base) (va_Qi CP (gw_B D classes (gT cJ cI cZ cS) ws sz) (va_A ws sz)) (gX D classes (gT cJ cI cZ cS) ws sz XP) 1 6 (va_A ws sz)) : Met l y_L_needed w_L_needed ({ frames := 8, cells := 1, slots := 6, locals := 158 } : Room) (gh_Pc D classes (gT cJ cI cZ cS) [.ref b, .int x, .ref o] ws sz base) (va_Qi (hq_i cJ bo o (fun r : Int32 => r.toInt64) CP XP cd_1) (gw_B D classes (gT cJ cI cZ cS) ws sz) (va_A ws sz)) 1 6 (va_A ws sz) := by
  refine gh_head (by decide) (Nat.le_of_ble_eq_true rfl) (fun p e s m below meth c hsz hx hb hr hlocks hml hown hts hK hN hP hD hS hA hB hE hC htab ls hl => ?_)
  subst hsz
  have hown : s.vm.findClass R_L = some m.cls := hown
  have hT : ∀ w ∈ wG, w ∈ Cond.codeWith y_L_needed b_L_needed 4 (some .int) h_L_needed :: wG := gd_t _
  have hF : CallFix p m c b_L_needed 4 s ([.ref b, .int x, .ref o] : List Value).toArray (Cond.codeWith y_L_needed b_L_needed 4 (some .int) h_L_needed :: wG) R_L := ⟨hx, hb, hml, hown, hts⟩
  have hl : lv_has ls 4 [(0, .ref b), (1, .int x), (2, .ref o)] := hl
  refine lv_aload_n hx hb d_L_needed_0 rfl (lv_at hl 2 rfl) ?_
  refine lv_iconst (v := nI 0) hx hb d_L_needed_1 (by decide) ?_
  refine lv_aload_n hx hb d_L_needed_2 rfl (lv_at hl 0 rfl) ?_
  refine lv_iload_n hx hb d_L_needed_3 rfl (lv_at hl 1 rfl) ?_
  refine gh_ci (gxc_L_73 (As := [.int x]) (rest := [.int (nI 0), .ref o]) hF hT hM ⟨(Nat.le_of_ble_eq_true rfl), (Nat.le_of_ble_eq_true rfl)⟩ rfl rfl (gx_pre hK hN hP hD hS hB hA hE) hK hP he rfl hl.1 rfl (Nat.le_of_ble_eq_true rfl) d_L_needed_4 ⟨(Nat.le_of_ble_eq_true rfl), (Nat.le_of_ble_eq_true rfl)⟩) hD hS hA (fun Z ce q9 w H locs hw hP hD hS hce hcv hcl => ?_) (fun r w H locs hw hP hD hS => ?_)
  · have hz := hxp Z w hw
    subst hz
    refine gh_c1 hF hT hN htab (by decide) hce hcv hcl ?_
    refine lv_astore_n (lv' := [(3, .ref q9), (0, .ref b), (1, .int x), (2, .ref o)]) hx hb d_L_needed_12 rfl hl (by decide) rfl (fun ls hl => ?_)
    refine lv_iconst (v := nI 1) hx hb d_L_needed_13 (by decide) ?_
    exact gw_iret hx hb hr hlocks hK hP hD hS (Nat.le_of_ble_eq_true rfl) (Nat.le_of_ble_eq_true rfl) d_L_needed_14 (Or.inr ⟨_, hw, (if_pos rfl).symm⟩)
  · have ho1 := (hcp r w hw).trans ho
    refine lv_i2l (v := r.toInt64) hx hb d_L_needed_7 rfl ?_
    refine g_last (t0 := 0) (k := 0) hx hb hK hP hD hS ho1 rfl (by omega) (by omega) d_L_needed_8 (fun w2 H locs ho2 hf hP hD hS => ?_)
    refine lv_goto (tgt := 15) hx hb d_L_needed_9 (by decide) ?_
    refine lv_iconst (v := nI 0) hx hb d_L_needed_15 (by decide) ?_
    exact gw_iret hx hb hr hlocks hK hP hD hS (Nat.le_of_ble_eq_true rfl) (Nat.le_of_ble_eq_true rfl) d_L_needed_16 (Or.inl ⟨rfl, r, w, f, hw, ho2, hf⟩)

set_option maxHeartbeats 4000000 in
set_option maxRecDepth 100000 in
theorem hc_needs {l : Launch} {D : va_G} {cJ cI cZ cS : ClassId} {ws : va_W} {sz base : Nat} {b q0 bo o : Nat} {fs : List Value} {f : Nat → Int64} {x : Int32} {y : Int32} {CP : Int64 → va_W → Prop} {XP : String → va_W → Prop} (he : ws[q0]? = some (b, .inr (2, fs))) (ho : ws[bo]? = some (o, .inl (cJ, 1, .inr (.inl f)))) (hcp : ∀ r w, CP r w → w[bo]? = ws[bo]?) (hxp : ∀ Z w, XP Z w → Z = xIOOB) (hM : vx_Met l y_X_needs w_X_needs ({ frames := 6, cells := 1, slots := 6, locals := 90 } : Room) (gx_Pc D classes (gT cJ cI cZ cS) [.ref b, .int x, .int y] ws sz base) (va_Ql CP (gw_B D classes (gT cJ cI cZ cS) ws sz) (va_A ws sz)) (gX D classes (gT cJ cI cZ cS) ws sz XP) 1 6 (va_A ws sz)) : Met l y_L_needs w_L_needs ({ frames := 7, cells := 1, slots := 6, locals := 112 } : Room) (gh_Pc D classes (gT cJ cI cZ cS) [.ref b, .int x, .int y, .ref o] ws sz base) (va_Qi (hq_i cJ bo o (fun r : Int64 => r) CP XP cd_1) (gw_B D classes (gT cJ cI cZ cS) ws sz) (va_A ws sz)) 1 6 (va_A ws sz) := by
  refine gh_head (by decide) (Nat.le_of_ble_eq_true rfl) (fun p e s m below meth c hsz hx hb hr hlocks hml hown hts hK hN hP hD hS hA hB hE hC htab ls hl => ?_)
  subst hsz
  have hown : s.vm.findClass R_L = some m.cls := hown
  have hT : ∀ w ∈ wG, w ∈ Cond.codeWith y_L_needs b_L_needs 5 (some .int) h_L_needs :: wG := gd_t _
  have hF : CallFix p m c b_L_needs 5 s ([.ref b, .int x, .int y, .ref o] : List Value).toArray (Cond.codeWith y_L_needs b_L_needs 5 (some .int) h_L_needs :: wG) R_L := ⟨hx, hb, hml, hown, hts⟩
  have hl : lv_has ls 5 [(0, .ref b), (1, .int x), (2, .int y), (3, .ref o)] := hl
  refine lv_aload_n hx hb d_L_needs_0 rfl (lv_at hl 3 rfl) ?_
  refine lv_iconst (v := nI 0) hx hb d_L_needs_1 (by decide) ?_
  refine lv_aload_n hx hb d_L_needs_2 rfl (lv_at hl 0 rfl) ?_
  refine lv_iload_n hx hb d_L_needs_3 rfl (lv_at hl 1 rfl) ?_
  refine lv_iload_n hx hb d_L_needs_4 rfl (lv_at hl 2 rfl) ?_
  refine gh_cl (gxc_L_77 (As := [.int x, .int y]) (rest := [.int (nI 0), .ref o]) hF hT hM ⟨(Nat.le_of_ble_eq_true rfl), (Nat.le_of_ble_eq_true rfl)⟩ rfl rfl (gx_pre hK hN hP hD hS hB hA hE) hK hP he rfl hl.1 rfl (Nat.le_of_ble_eq_true rfl) d_L_needs_5 ⟨(Nat.le_of_ble_eq_true rfl), (Nat.le_of_ble_eq_true rfl)⟩) hD hS hA (fun Z ce q9 w H locs hw hP hD hS hce hcv hcl => ?_) (fun r w H locs hw hP hD hS => ?_)
  · have hz := hxp Z w hw
    subst hz
    refine gh_c1 hF hT hN htab (by decide) hce hcv hcl ?_
    refine lv_astore (lv' := [(4, .ref q9), (0, .ref b), (1, .int x), (2, .int y), (3, .ref o)]) hx hb d_L_needs_12 hl (by decide) rfl (fun ls hl => ?_)
    refine lv_iconst (v := nI 1) hx hb d_L_needs_14 (by decide) ?_
    exact gw_iret hx hb hr hlocks hK hP hD hS (Nat.le_of_ble_eq_true rfl) (Nat.le_of_ble_eq_true rfl) d_L_needs_15 (Or.inr ⟨_, hw, (if_pos rfl).symm⟩)
  · have ho1 := (hcp r w hw).trans ho
    refine g_last (t0 := 0) (k := 0) hx hb hK hP hD hS ho1 rfl (by omega) (by omega) d_L_needs_8 (fun w2 H locs ho2 hf hP hD hS => ?_)
    refine lv_goto (tgt := 16) hx hb d_L_needs_9 (by decide) ?_
    refine lv_iconst (v := nI 0) hx hb d_L_needs_16 (by decide) ?_
    exact gw_iret hx hb hr hlocks hK hP hD hS (Nat.le_of_ble_eq_true rfl) (Nat.le_of_ble_eq_true rfl) d_L_needs_17 (Or.inl ⟨rfl, r, w, f, hw, ho2, hf⟩)

set_option maxHeartbeats 4000000 in
set_option maxRecDepth 100000 in
theorem hc_fits {l : Launch} {D : va_G} {cJ cI cZ cS : ClassId} {ws : va_W} {sz base : Nat} {b q0 bo o : Nat} {fs : List Value} {f : Nat → Int64} {x : Int32} {y : Int32} {z : Int32} {CP : Int32 → va_W → Prop} {XP : String → va_W → Prop} (he : ws[q0]? = some (b, .inr (2, fs))) (ho : ws[bo]? = some (o, .inl (cJ, 1, .inr (.inl f)))) (hcp : ∀ r w, CP r w → w[bo]? = ws[bo]?) (hxp : ∀ Z w, XP Z w → Z = xIOOB ∨ Z = xIAE) (hM : vx_Met l y_X_fits w_X_fits ({ frames := 7, cells := 3, slots := 18, locals := 111 } : Room) (gx_Pc D classes (gT cJ cI cZ cS) [.ref b, .int x, .int y, .int z] ws sz base) (va_Qi CP (gw_B D classes (gT cJ cI cZ cS) ws sz) (va_A ws sz)) (gX D classes (gT cJ cI cZ cS) ws sz XP) 3 18 (va_A ws sz)) : Met l y_L_fits w_L_fits ({ frames := 8, cells := 3, slots := 18, locals := 136 } : Room) (gh_Pc D classes (gT cJ cI cZ cS) [.ref b, .int x, .int y, .int z, .ref o] ws sz base) (va_Qi (hq_i cJ bo o hb_z CP XP cd_12) (gw_B D classes (gT cJ cI cZ cS) ws sz) (va_A ws sz)) 3 18 (va_A ws sz) := by
  refine gh_head (by decide) (Nat.le_of_ble_eq_true rfl) (fun p e s m below meth c hsz hx hb hr hlocks hml hown hts hK hN hP hD hS hA hB hE hC htab ls hl => ?_)
  subst hsz
  have hown : s.vm.findClass R_L = some m.cls := hown
  have hT : ∀ w ∈ wG, w ∈ Cond.codeWith y_L_fits b_L_fits 6 (some .int) h_L_fits :: wG := gd_t _
  have hF : CallFix p m c b_L_fits 6 s ([.ref b, .int x, .int y, .int z, .ref o] : List Value).toArray (Cond.codeWith y_L_fits b_L_fits 6 (some .int) h_L_fits :: wG) R_L := ⟨hx, hb, hml, hown, hts⟩
  have hl : lv_has ls 6 [(0, .ref b), (1, .int x), (2, .int y), (3, .int z), (4, .ref o)] := hl
  refine lv_aload hx hb d_L_fits_0 (lv_at hl 4 rfl) ?_
  refine lv_iconst (v := nI 0) hx hb d_L_fits_2 (by decide) ?_
  refine lv_aload_n hx hb d_L_fits_3 rfl (lv_at hl 0 rfl) ?_
  refine lv_iload_n hx hb d_L_fits_4 rfl (lv_at hl 1 rfl) ?_
  refine lv_iload_n hx hb d_L_fits_5 rfl (lv_at hl 2 rfl) ?_
  refine lv_iload_n hx hb d_L_fits_6 rfl (lv_at hl 3 rfl) ?_
  refine gh_ci (gxc_L_81 (As := [.int x, .int y, .int z]) (rest := [.int (nI 0), .ref o]) hF hT hM ⟨(Nat.le_of_ble_eq_true rfl), (Nat.le_of_ble_eq_true rfl)⟩ rfl rfl (gx_pre hK hN hP hD hS hB hA hE) hK hP he rfl hl.1 rfl (Nat.le_of_ble_eq_true rfl) d_L_fits_7 ⟨(Nat.le_of_ble_eq_true rfl), (Nat.le_of_ble_eq_true rfl)⟩) hD hS hA (fun Z ce q9 w H locs hw hP hD hS hce hcv hcl => ?_) (fun r w H locs hw hP hD hS => ?_)
  · have hz := hxp Z w hw
    rcases hz with rfl | rfl
    · refine gh_c1 hF hT hN htab (by decide) hce hcv hcl ?_
      refine lv_astore (lv' := [(5, .ref q9), (0, .ref b), (1, .int x), (2, .int y), (3, .int z), (4, .ref o)]) hx hb d_L_fits_22 hl (by decide) rfl (fun ls hl => ?_)
      refine lv_iconst (v := nI 1) hx hb d_L_fits_24 (by decide) ?_
      exact gw_iret hx hb hr hlocks hK hP hD hS (Nat.le_of_ble_eq_true rfl) (Nat.le_of_ble_eq_true rfl) d_L_fits_25 (Or.inr ⟨_, hw, (if_pos rfl).symm⟩)
    · refine gh_c2 hF hT hN hC htab (by decide) hce hcv hcl ?_
      refine lv_astore (lv' := [(5, .ref q9), (0, .ref b), (1, .int x), (2, .int y), (3, .int z), (4, .ref o)]) hx hb d_L_fits_26 hl (by decide) rfl (fun ls hl => ?_)
      refine lv_iconst (v := nI 2) hx hb d_L_fits_28 (by decide) ?_
      exact gw_iret hx hb hr hlocks hK hP hD hS (Nat.le_of_ble_eq_true rfl) (Nat.le_of_ble_eq_true rfl) d_L_fits_29 (Or.inr ⟨_, hw, (if_neg (by decide)).symm⟩)
  · have ho1 := (hcp r w hw).trans ho
    refine lv_if_eq (tgt := 17) hx hb d_L_fits_10 (by decide) (fun c1 => ?_) (fun c1 => ?_)
    · refine lv_lconst (v := 0) hx hb d_L_fits_17 rfl ?_
      refine g_last (t0 := 0) (k := 0) hx hb hK hP hD hS ho1 rfl (by omega) (by omega) d_L_fits_18 (fun w2 H locs ho2 hf hP hD hS => ?_)
      refine lv_goto (tgt := 30) hx hb d_L_fits_19 (by decide) ?_
      refine lv_iconst (v := nI 0) hx hb d_L_fits_30 (by decide) ?_
      exact gw_iret hx hb hr hlocks hK hP hD hS (Nat.le_of_ble_eq_true rfl) (Nat.le_of_ble_eq_true rfl) d_L_fits_31 (Or.inl ⟨rfl, r, w, f, hw, by rw [show hb_z r = 0 from if_pos c1]; exact ho2, hf⟩)
    · refine lv_lconst (v := 1) hx hb d_L_fits_13 rfl ?_
      refine lv_goto (tgt := 18) hx hb d_L_fits_14 (by decide) ?_
      refine g_last (t0 := 0) (k := 0) hx hb hK hP hD hS ho1 rfl (by omega) (by omega) d_L_fits_18 (fun w2 H locs ho2 hf hP hD hS => ?_)
      refine lv_goto (tgt := 30) hx hb d_L_fits_19 (by decide) ?_
      refine lv_iconst (v := nI 0) hx hb d_L_fits_30 (by decide) ?_
      exact gw_iret hx hb hr hlocks hK hP hD hS (Nat.le_of_ble_eq_true rfl) (Nat.le_of_ble_eq_true rfl) d_L_fits_31 (Or.inl ⟨rfl, r, w, f, hw, by rw [show hb_z r = 1 from if_neg c1]; exact ho2, hf⟩)

set_option maxHeartbeats 4000000 in
set_option maxRecDepth 100000 in
theorem hc_array {l : Launch} {D : va_G} {cJ cI cZ cS : ClassId} {ws : va_W} {sz base : Nat} {b q0 bo o : Nat} {fs : List Value} {f : Nat → Int64} {x : Int32} {y : Int32} {z : Int32} {CP : Int32 → va_W → Prop} {XP : String → va_W → Prop} (he : ws[q0]? = some (b, .inr (2, fs))) (ho : ws[bo]? = some (o, .inl (cJ, 1, .inr (.inl f)))) (hcp : ∀ r w, CP r w → w[bo]? = ws[bo]?) (hxp : ∀ Z w, XP Z w → Z = xIOOB) (hM : vx_Met l y_X_array w_X_array ({ frames := 7, cells := 4, slots := 24, locals := 111 } : Room) (gx_Pc D classes (gT cJ cI cZ cS) [.ref b, .int x, .int y, .int z] ws sz base) (va_Qi CP (gw_B D classes (gT cJ cI cZ cS) ws sz) (va_A ws sz)) (gX D classes (gT cJ cI cZ cS) ws sz XP) 4 24 (va_A ws sz)) : Met l y_L_array w_L_array ({ frames := 8, cells := 4, slots := 24, locals := 135 } : Room) (gh_Pc D classes (gT cJ cI cZ cS) [.ref b, .int x, .int y, .int z, .ref o] ws sz base) (va_Qi (hq_i cJ bo o (fun r : Int32 => r.toInt64) CP XP cd_1) (gw_B D classes (gT cJ cI cZ cS) ws sz) (va_A ws sz)) 4 24 (va_A ws sz) := by
  refine gh_head (by decide) (Nat.le_of_ble_eq_true rfl) (fun p e s m below meth c hsz hx hb hr hlocks hml hown hts hK hN hP hD hS hA hB hE hC htab ls hl => ?_)
  subst hsz
  have hown : s.vm.findClass R_L = some m.cls := hown
  have hT : ∀ w ∈ wG, w ∈ Cond.codeWith y_L_array b_L_array 6 (some .int) h_L_array :: wG := gd_t _
  have hF : CallFix p m c b_L_array 6 s ([.ref b, .int x, .int y, .int z, .ref o] : List Value).toArray (Cond.codeWith y_L_array b_L_array 6 (some .int) h_L_array :: wG) R_L := ⟨hx, hb, hml, hown, hts⟩
  have hl : lv_has ls 6 [(0, .ref b), (1, .int x), (2, .int y), (3, .int z), (4, .ref o)] := hl
  refine lv_aload hx hb d_L_array_0 (lv_at hl 4 rfl) ?_
  refine lv_iconst (v := nI 0) hx hb d_L_array_2 (by decide) ?_
  refine lv_aload_n hx hb d_L_array_3 rfl (lv_at hl 0 rfl) ?_
  refine lv_iload_n hx hb d_L_array_4 rfl (lv_at hl 1 rfl) ?_
  refine lv_iload_n hx hb d_L_array_5 rfl (lv_at hl 2 rfl) ?_
  refine lv_iload_n hx hb d_L_array_6 rfl (lv_at hl 3 rfl) ?_
  refine gh_ci (gxc_L_85 (As := [.int x, .int y, .int z]) (rest := [.int (nI 0), .ref o]) hF hT hM ⟨(Nat.le_of_ble_eq_true rfl), (Nat.le_of_ble_eq_true rfl)⟩ rfl rfl (gx_pre hK hN hP hD hS hB hA hE) hK hP he rfl hl.1 rfl (Nat.le_of_ble_eq_true rfl) d_L_array_7 ⟨(Nat.le_of_ble_eq_true rfl), (Nat.le_of_ble_eq_true rfl)⟩) hD hS hA (fun Z ce q9 w H locs hw hP hD hS hce hcv hcl => ?_) (fun r w H locs hw hP hD hS => ?_)
  · have hz := hxp Z w hw
    subst hz
    refine gh_c1 hF hT hN htab (by decide) hce hcv hcl ?_
    refine lv_astore (lv' := [(5, .ref q9), (0, .ref b), (1, .int x), (2, .int y), (3, .int z), (4, .ref o)]) hx hb d_L_array_15 hl (by decide) rfl (fun ls hl => ?_)
    refine lv_iconst (v := nI 1) hx hb d_L_array_17 (by decide) ?_
    exact gw_iret hx hb hr hlocks hK hP hD hS (Nat.le_of_ble_eq_true rfl) (Nat.le_of_ble_eq_true rfl) d_L_array_18 (Or.inr ⟨_, hw, (if_pos rfl).symm⟩)
  · have ho1 := (hcp r w hw).trans ho
    refine lv_i2l (v := r.toInt64) hx hb d_L_array_10 rfl ?_
    refine g_last (t0 := 0) (k := 0) hx hb hK hP hD hS ho1 rfl (by omega) (by omega) d_L_array_11 (fun w2 H locs ho2 hf hP hD hS => ?_)
    refine lv_goto (tgt := 19) hx hb d_L_array_12 (by decide) ?_
    refine lv_iconst (v := nI 0) hx hb d_L_array_19 (by decide) ?_
    exact gw_iret hx hb hr hlocks hK hP hD hS (Nat.le_of_ble_eq_true rfl) (Nat.le_of_ble_eq_true rfl) d_L_array_20 (Or.inl ⟨rfl, r, w, f, hw, ho2, hf⟩)

set_option maxHeartbeats 4000000 in
set_option maxRecDepth 100000 in
theorem hc_told {l : Launch} {D : va_G} {cJ cI cZ cS : ClassId} {ws : va_W} {sz base : Nat} {b q0 bo o : Nat} {fs : List Value} {f : Nat → Int64} {x : Int32} {CP : Int32 → va_W → Prop} {XP : String → va_W → Prop} (he : ws[q0]? = some (b, .inr (2, fs))) (ho : ws[bo]? = some (o, .inl (cJ, 1, .inr (.inl f)))) (hcp : ∀ r w, CP r w → w[bo]? = ws[bo]?) (hxp : ∀ Z w, XP Z w → Z = xIOOB) (hM : vx_Met l y_X_told w_X_told ({ frames := 6, cells := 1, slots := 6, locals := 90 } : Room) (gx_Pc D classes (gT cJ cI cZ cS) [.ref b, .int x] ws sz base) (va_Qi CP (gw_B D classes (gT cJ cI cZ cS) ws sz) (va_A ws sz)) (gX D classes (gT cJ cI cZ cS) ws sz XP) 1 6 (va_A ws sz)) : Met l y_L_told w_L_told ({ frames := 7, cells := 1, slots := 6, locals := 111 } : Room) (gh_Pc D classes (gT cJ cI cZ cS) [.ref b, .int x, .ref o] ws sz base) (va_Qi (hq_i cJ bo o (fun r : Int32 => r.toInt64) CP XP cd_1) (gw_B D classes (gT cJ cI cZ cS) ws sz) (va_A ws sz)) 1 6 (va_A ws sz) := by
  refine gh_head (by decide) (Nat.le_of_ble_eq_true rfl) (fun p e s m below meth c hsz hx hb hr hlocks hml hown hts hK hN hP hD hS hA hB hE hC htab ls hl => ?_)
  subst hsz
  have hown : s.vm.findClass R_L = some m.cls := hown
  have hT : ∀ w ∈ wG, w ∈ Cond.codeWith y_L_told b_L_told 4 (some .int) h_L_told :: wG := gd_t _
  have hF : CallFix p m c b_L_told 4 s ([.ref b, .int x, .ref o] : List Value).toArray (Cond.codeWith y_L_told b_L_told 4 (some .int) h_L_told :: wG) R_L := ⟨hx, hb, hml, hown, hts⟩
  have hl : lv_has ls 4 [(0, .ref b), (1, .int x), (2, .ref o)] := hl
  refine lv_aload_n hx hb d_L_told_0 rfl (lv_at hl 2 rfl) ?_
  refine lv_iconst (v := nI 0) hx hb d_L_told_1 (by decide) ?_
  refine lv_aload_n hx hb d_L_told_2 rfl (lv_at hl 0 rfl) ?_
  refine lv_iload_n hx hb d_L_told_3 rfl (lv_at hl 1 rfl) ?_
  refine gh_ci (gxc_L_88 (As := [.int x]) (rest := [.int (nI 0), .ref o]) hF hT hM ⟨(Nat.le_of_ble_eq_true rfl), (Nat.le_of_ble_eq_true rfl)⟩ rfl rfl (gx_pre hK hN hP hD hS hB hA hE) hK hP he rfl hl.1 rfl (Nat.le_of_ble_eq_true rfl) d_L_told_4 ⟨(Nat.le_of_ble_eq_true rfl), (Nat.le_of_ble_eq_true rfl)⟩) hD hS hA (fun Z ce q9 w H locs hw hP hD hS hce hcv hcl => ?_) (fun r w H locs hw hP hD hS => ?_)
  · have hz := hxp Z w hw
    subst hz
    refine gh_c1 hF hT hN htab (by decide) hce hcv hcl ?_
    refine lv_astore_n (lv' := [(3, .ref q9), (0, .ref b), (1, .int x), (2, .ref o)]) hx hb d_L_told_12 rfl hl (by decide) rfl (fun ls hl => ?_)
    refine lv_iconst (v := nI 1) hx hb d_L_told_13 (by decide) ?_
    exact gw_iret hx hb hr hlocks hK hP hD hS (Nat.le_of_ble_eq_true rfl) (Nat.le_of_ble_eq_true rfl) d_L_told_14 (Or.inr ⟨_, hw, (if_pos rfl).symm⟩)
  · have ho1 := (hcp r w hw).trans ho
    refine lv_i2l (v := r.toInt64) hx hb d_L_told_7 rfl ?_
    refine g_last (t0 := 0) (k := 0) hx hb hK hP hD hS ho1 rfl (by omega) (by omega) d_L_told_8 (fun w2 H locs ho2 hf hP hD hS => ?_)
    refine lv_goto (tgt := 15) hx hb d_L_told_9 (by decide) ?_
    refine lv_iconst (v := nI 0) hx hb d_L_told_15 (by decide) ?_
    exact gw_iret hx hb hr hlocks hK hP hD hS (Nat.le_of_ble_eq_true rfl) (Nat.le_of_ble_eq_true rfl) d_L_told_16 (Or.inl ⟨rfl, r, w, f, hw, ho2, hf⟩)
