set_option maxHeartbeats 4000000 in
set_option maxRecDepth 100000 in
theorem c_X_plus {l : Launch} {D : va_G} {cJ cI cZ cS : ClassId} {ws : va_W} {sz : Nat} {x y : Int64} : Met l y_X_plus w_X_plus ({ frames := 1, cells := 0, slots := 0, locals := 0 } : Room) (gw_Pc D classes (gT cJ cI cZ cS) [.long x, .long y] ws sz) (va_Ql (fun r w => (r = lr_plus x y) ∧ w = ws) (gw_B D classes (gT cJ cI cZ cS) ws sz) (va_A ws sz)) 0 0 (va_A ws sz) := by
  refine gw_head (by decide) (Nat.le_of_ble_eq_true rfl) (fun p e s m below meth c hsz hx hb hr hlocks hml hown hnm hts hK hN hP hD hS hA ls hl => ?_)
  have hown : s.vm.findClass R_X = some m.cls := hown
  have hT : ∀ w ∈ wG, w ∈ Cond.code y_X_plus b_X_plus 4 (some .long) :: wG := gd_t _
  have hF : CallFix p m c b_X_plus 4 s ([.long x, .long y] : List Value).toArray (Cond.code y_X_plus b_X_plus 4 (some .long) :: wG) R_X := ⟨hx, hb, hml, hown, hts⟩
  have hl : lv_has ls 4 [(0, .long x), (2, .long y)] := hl
  refine lv_lload_n hx hb d_X_plus_0 rfl (lv_at hl 0 rfl) ?_
  refine lv_ldc2 (v := lr_E) hx hb hown (hts _ (hT _ wm_2_61)) d_X_plus_1 ?_
  refine gx_leq (tgt := 16) hx hb d_X_plus_4 d_X_plus_5 (by decide) (fun c1 => ?_) (fun c1 => ?_)
  · refine lv_ldc2 (v := lr_E) hx hb hown (hts _ (hT _ wm_2_61)) d_X_plus_16 ?_
    refine lv_goto (tgt := 25) hx hb d_X_plus_19 (by decide) ?_
    exact gw_lret hx hb hr hlocks hK hP hD hS (Nat.le_of_ble_eq_true rfl) (Nat.le_of_ble_eq_true rfl) d_X_plus_25 ⟨by unfold lr_plus; simp [c1], rfl⟩
  · refine lv_lload_n hx hb d_X_plus_8 rfl (lv_at hl 1 rfl) ?_
    refine lv_ldc2 (v := lr_E) hx hb hown (hts _ (hT _ wm_2_61)) d_X_plus_9 ?_
    refine gx_lne (tgt := 22) hx hb d_X_plus_12 d_X_plus_13 (by decide) (fun c2 => ?_) (fun c2 => ?_)
    · refine lv_lload_n hx hb d_X_plus_22 rfl (lv_at hl 0 rfl) ?_
      refine lv_lload_n hx hb d_X_plus_23 rfl (lv_at hl 1 rfl) ?_
      refine lv_ladd hx hb d_X_plus_24 ?_
      exact gw_lret hx hb hr hlocks hK hP hD hS (Nat.le_of_ble_eq_true rfl) (Nat.le_of_ble_eq_true rfl) d_X_plus_25 ⟨by unfold lr_plus; simp [c1, c2], rfl⟩
    · refine lv_ldc2 (v := lr_E) hx hb hown (hts _ (hT _ wm_2_61)) d_X_plus_16 ?_
      refine lv_goto (tgt := 25) hx hb d_X_plus_19 (by decide) ?_
      exact gw_lret hx hb hr hlocks hK hP hD hS (Nat.le_of_ble_eq_true rfl) (Nat.le_of_ble_eq_true rfl) d_X_plus_25 ⟨by unfold lr_plus; simp [c1, c2], rfl⟩

set_option maxHeartbeats 4000000 in
set_option maxRecDepth 100000 in
theorem c_X_placeOf {l : Launch} {D : va_G} {cJ cI cZ cS : ClassId} {ws : va_W} {sz : Nat} {x : Int32} (hs : lr_sm x) (hz : ¬ x = 0) : Met l y_X_placeOf w_X_placeOf ({ frames := 1, cells := 0, slots := 0, locals := 0 } : Room) (gw_Pc D classes (gT cJ cI cZ cS) [.int x] ws sz) (va_Qi (fun r w => (r = nI (lr_pl x)) ∧ w = ws) (gw_B D classes (gT cJ cI cZ cS) ws sz) (va_A ws sz)) 0 0 (va_A ws sz) := by
  refine gw_head (by decide) (Nat.le_of_ble_eq_true rfl) (fun p e s m below meth c hsz hx hb hr hlocks hml hown hnm hts hK hN hP hD hS hA ls hl => ?_)
  have hown : s.vm.findClass R_X = some m.cls := hown
  have hT : ∀ w ∈ wG, w ∈ Cond.code y_X_placeOf b_X_placeOf 1 (some .int) :: wG := gd_t _
  have hF : CallFix p m c b_X_placeOf 1 s ([.int x] : List Value).toArray (Cond.code y_X_placeOf b_X_placeOf 1 (some .int) :: wG) R_X := ⟨hx, hb, hml, hown, hts⟩
  have hl : lv_has ls 1 [(0, .int x)] := hl
  refine lv_iload_n hx hb d_X_placeOf_0 rfl (lv_at hl 0 rfl) ?_
  refine lv_if_le (tgt := 12) hx hb d_X_placeOf_1 (by decide) (fun c1 => ?_) (fun c1 => ?_)
  · refine lv_iconst (v := nI 2) hx hb d_X_placeOf_12 (by decide) ?_
    refine lv_iload_n hx hb d_X_placeOf_13 rfl (lv_at hl 0 rfl) ?_
    refine lv_ineg hx hb d_X_placeOf_14 ?_
    refine lv_iconst (v := nI 1) hx hb d_X_placeOf_15 (by decide) ?_
    refine lv_isub hx hb d_X_placeOf_16 ?_
    refine lv_imul hx hb d_X_placeOf_17 ?_
    refine lv_iconst (v := nI 1) hx hb d_X_placeOf_18 (by decide) ?_
    refine lv_iadd hx hb d_X_placeOf_19 ?_
    exact gw_iret hx hb hr hlocks hK hP hD hS (Nat.le_of_ble_eq_true rfl) (Nat.le_of_ble_eq_true rfl) d_X_placeOf_20 ⟨lr_pl_neg hs hz c1, rfl⟩
  · refine lv_iconst (v := nI 2) hx hb d_X_placeOf_4 (by decide) ?_
    refine lv_iload_n hx hb d_X_placeOf_5 rfl (lv_at hl 0 rfl) ?_
    refine lv_iconst (v := nI 1) hx hb d_X_placeOf_6 (by decide) ?_
    refine lv_isub hx hb d_X_placeOf_7 ?_
    refine lv_imul hx hb d_X_placeOf_8 ?_
    refine lv_goto (tgt := 20) hx hb d_X_placeOf_9 (by decide) ?_
    exact gw_iret hx hb hr hlocks hK hP hD hS (Nat.le_of_ble_eq_true rfl) (Nat.le_of_ble_eq_true rfl) d_X_placeOf_20 ⟨lr_pl_pos hs (Int32.not_le.mp c1), rfl⟩

set_option maxHeartbeats 4000000 in
set_option maxRecDepth 100000 in
theorem c_JM_floorDiv {l : Launch} {D : va_G} {cJ cI cZ cS : ClassId} {ws : va_W} {sz : Nat} {x y : Int64} (hy : ¬ y = 0) : Met l y_JM_floorDiv w_JM_floorDiv ({ frames := 1, cells := 0, slots := 0, locals := 0 } : Room) (gw_Pc D classes (gT cJ cI cZ cS) [.long x, .long y] ws sz) (va_Ql (fun r w => (r = lr_fd x y) ∧ w = ws) (gw_B D classes (gT cJ cI cZ cS) ws sz) (va_A ws sz)) 0 0 (va_A ws sz) := by
  refine gw_headF (by decide +kernel) (Nat.le_of_ble_eq_true rfl) (fun p e s m below meth c hsz hx hb hr hlocks hml hown hnm hts hK hN hP hD hS hA ls hl => ?_)
  have hown : s.vm.findClass R_JM = some m.cls := hown
  have hT : ∀ w ∈ wG, w ∈ Cond.code y_JM_floorDiv b_JM_floorDiv 6 (some .long) :: wG := gd_t _
  have hF : CallFix p m c b_JM_floorDiv 6 s ([.long x, .long y] : List Value).toArray (Cond.code y_JM_floorDiv b_JM_floorDiv 6 (some .long) :: wG) R_JM := ⟨hx, hb, hml, hown, hts⟩
  have hl : lv_has ls 6 [(0, .long x), (2, .long y)] := hl
  refine lv_lload_n hx hb d_JM_floorDiv_0 rfl (lv_at hl 0 rfl) ?_
  refine lv_lload_n hx hb d_JM_floorDiv_1 rfl (lv_at hl 1 rfl) ?_
  refine lv_ldiv hx hb d_JM_floorDiv_2 (hy) ?_
  refine lv_lstore (lv' := [(4, .long (x / y)), (0, .long x), (2, .long y)]) hx hb d_JM_floorDiv_3 hl (by decide) rfl (fun ls hl => ?_)
  refine lv_lload_n hx hb d_JM_floorDiv_5 rfl (lv_at hl 1 rfl) ?_
  refine lv_lload_n hx hb d_JM_floorDiv_6 rfl (lv_at hl 2 rfl) ?_
  refine lv_lxor hx hb d_JM_floorDiv_7 ?_
  refine lv_lconst (v := 0) hx hb d_JM_floorDiv_8 rfl ?_
  refine gx_lge (tgt := 27) hx hb d_JM_floorDiv_9 d_JM_floorDiv_10 (by decide) (fun c1 => ?_) (fun c1 => ?_)
  · refine lv_lload hx hb d_JM_floorDiv_27 (lv_at hl 0 rfl) ?_
    exact gw_lret hx hb hr hlocks hK hP hD hS (Nat.le_of_ble_eq_true rfl) (Nat.le_of_ble_eq_true rfl) d_JM_floorDiv_29 ⟨by unfold lr_fd; simp [c1], rfl⟩
  · refine lv_lload hx hb d_JM_floorDiv_13 (lv_at hl 0 rfl) ?_
    refine lv_lload_n hx hb d_JM_floorDiv_15 rfl (lv_at hl 2 rfl) ?_
    refine lv_lmul hx hb d_JM_floorDiv_16 ?_
    refine lv_lload_n hx hb d_JM_floorDiv_17 rfl (lv_at hl 1 rfl) ?_
    refine gx_leq (tgt := 27) hx hb d_JM_floorDiv_18 d_JM_floorDiv_19 (by decide) (fun c2 => ?_) (fun c2 => ?_)
    · refine lv_lload hx hb d_JM_floorDiv_27 (lv_at hl 0 rfl) ?_
      exact gw_lret hx hb hr hlocks hK hP hD hS (Nat.le_of_ble_eq_true rfl) (Nat.le_of_ble_eq_true rfl) d_JM_floorDiv_29 ⟨by unfold lr_fd; simp [c1, c2], rfl⟩
    · refine lv_lload hx hb d_JM_floorDiv_22 (lv_at hl 0 rfl) ?_
      refine lv_lconst (v := 1) hx hb d_JM_floorDiv_24 rfl ?_
      refine lv_lsub hx hb d_JM_floorDiv_25 ?_
      exact gw_lret hx hb hr hlocks hK hP hD hS (Nat.le_of_ble_eq_true rfl) (Nat.le_of_ble_eq_true rfl) d_JM_floorDiv_26 ⟨by unfold lr_fd; simp [c1, c2], rfl⟩

set_option maxHeartbeats 4000000 in
set_option maxRecDepth 100000 in
theorem c_T_ofTerms {l : Launch} {D : va_G} {cJ cI cZ cS : ClassId} {ws : va_W} {sz : Nat} {j h g n : Nat} {f : Nat → Int64} (ht : tbAt cJ ws j h g n f) (hn : n ≤ 10) {x y : Int32} (hsx : lr_sm x) (hsy : lr_sm y) (hxy : ¬ (x = 0 ∧ y = 0)) (hpx : ¬ x = 0 → lr_pl x < n) (hpy : ¬ y = 0 → lr_pl y < n) : Met l y_T_ofTerms w_T_ofTerms ({ frames := 3, cells := 0, slots := 0, locals := 43 } : Room) (gw_Pc D classes (gT cJ cI cZ cS) [.ref h, .int x, .int y] ws sz) (va_Ql (fun r w => (r = lr_ofT f n x y) ∧ w = ws) (gw_B D classes (gT cJ cI cZ cS) ws sz) (va_A ws sz)) 0 0 (va_A ws sz) := by
  refine gw_head (by decide) (Nat.le_of_ble_eq_true rfl) (fun p e s m below meth c hsz hx hb hr hlocks hml hown hnm hts hK hN hP hD hS hA ls hl => ?_)
  have hown : s.vm.findClass R_T = some m.cls := hown
  have hT : ∀ w ∈ wG, w ∈ Cond.code y_T_ofTerms b_T_ofTerms 3 (some .long) :: wG := gd_t _
  have hF : CallFix p m c b_T_ofTerms 3 s ([.ref h, .int x, .int y] : List Value).toArray (Cond.code y_T_ofTerms b_T_ofTerms 3 (some .long) :: wG) R_T := ⟨hx, hb, hml, hown, hts⟩
  have hl : lv_has ls 3 [(0, .ref h), (1, .int x), (2, .int y)] := hl
  obtain ⟨hO, hC⟩ := ht
  refine lv_iload_n hx hb d_T_ofTerms_0 rfl (lv_at hl 1 rfl) ?_
  refine lv_if_eq (tgt := 8) hx hb d_T_ofTerms_1 (by decide) (fun c1 => ?_) (fun c1 => ?_)
  · have hy0 : ¬ y = 0 := fun q => hxy ⟨c1, q⟩
    refine lv_aload_n hx hb d_T_ofTerms_8 rfl (lv_at hl 0 rfl) ?_
    refine lv_iload_n hx hb d_T_ofTerms_9 rfl (lv_at hl 1 rfl) ?_
    refine lv_if_ne (tgt := 17) hx hb d_T_ofTerms_10 (by decide) (fun c2 => ?_) (fun c2 => ?_)
    · exact absurd ‹x = 0› ‹¬ x = 0›
    · refine lv_iload_n hx hb d_T_ofTerms_13 rfl (lv_at hl 2 rfl) ?_
      refine lv_goto (tgt := 18) hx hb d_T_ofTerms_14 (by decide) ?_
      refine gw_ci0 (gc_T_33 (As := [.int y]) (rest := [.ref h]) hF hT (c_X_placeOf hsy (by assumption)) ⟨(Nat.le_of_ble_eq_true rfl), (Nat.le_of_ble_eq_true rfl)⟩ rfl rfl hK hN hP hD rfl hl.1 rfl (Nat.le_of_ble_eq_true rfl) d_T_ofTerms_18 ⟨(Nat.le_of_ble_eq_true rfl), (Nat.le_of_ble_eq_true rfl)⟩) hD hS hA (fun r3 H locs e_r3 hP hD hS => ?_)
      subst e_r3
      refine gw_cl0 (gc_T_37 (As := [.int (nI (lr_pl y))]) (rest := []) hF hT (c_T_half ⟨hO, hC⟩ hn (by first | exact hpx (by assumption) | exact hpy (by assumption))) ⟨(Nat.le_of_ble_eq_true rfl), (Nat.le_of_ble_eq_true rfl)⟩ rfl rfl hK hN hP hD hO rfl hl.1 rfl (Nat.le_of_ble_eq_true rfl) d_T_ofTerms_21 ⟨(Nat.le_of_ble_eq_true rfl), (Nat.le_of_ble_eq_true rfl)⟩) hD hS hA (fun r4 H locs e_r4 hP hD hS => ?_)
      subst e_r4
      exact gw_lret hx hb hr hlocks hK hP hD hS (Nat.le_of_ble_eq_true rfl) (Nat.le_of_ble_eq_true rfl) d_T_ofTerms_24 ⟨by unfold lr_ofT; simp [c1, c2], rfl⟩
  · refine lv_iload_n hx hb d_T_ofTerms_4 rfl (lv_at hl 2 rfl) ?_
    refine lv_if_ne (tgt := 25) hx hb d_T_ofTerms_5 (by decide) (fun c5 => ?_) (fun c5 => ?_)
    · refine lv_aload_n hx hb d_T_ofTerms_25 rfl (lv_at hl 0 rfl) ?_
      refine lv_iload_n hx hb d_T_ofTerms_26 rfl (lv_at hl 1 rfl) ?_
      refine gw_ci0 (gc_T_33 (As := [.int x]) (rest := [.ref h]) hF hT (c_X_placeOf hsx (by assumption)) ⟨(Nat.le_of_ble_eq_true rfl), (Nat.le_of_ble_eq_true rfl)⟩ rfl rfl hK hN hP hD rfl hl.1 rfl (Nat.le_of_ble_eq_true rfl) d_T_ofTerms_27 ⟨(Nat.le_of_ble_eq_true rfl), (Nat.le_of_ble_eq_true rfl)⟩) hD hS hA (fun r6 H locs e_r6 hP hD hS => ?_)
      subst e_r6
      refine lv_iload_n hx hb d_T_ofTerms_30 rfl (lv_at hl 2 rfl) ?_
      refine gw_ci0 (gc_T_33 (As := [.int y]) (rest := [.int (nI (lr_pl x)), .ref h]) hF hT (c_X_placeOf hsy (by assumption)) ⟨(Nat.le_of_ble_eq_true rfl), (Nat.le_of_ble_eq_true rfl)⟩ rfl rfl hK hN hP hD rfl hl.1 rfl (Nat.le_of_ble_eq_true rfl) d_T_ofTerms_31 ⟨(Nat.le_of_ble_eq_true rfl), (Nat.le_of_ble_eq_true rfl)⟩) hD hS hA (fun r7 H locs e_r7 hP hD hS => ?_)
      subst e_r7
      refine gw_cl0 (gc_T_27 (As := [.int (nI (lr_pl x)), .int (nI (lr_pl y))]) (rest := []) hF hT (c_T_at ⟨hO, hC⟩ hn (hpx (by assumption)) (hpy (by assumption))) ⟨(Nat.le_of_ble_eq_true rfl), (Nat.le_of_ble_eq_true rfl)⟩ rfl rfl hK hN hP hD hO rfl hl.1 rfl (Nat.le_of_ble_eq_true rfl) d_T_ofTerms_34 ⟨(Nat.le_of_ble_eq_true rfl), (Nat.le_of_ble_eq_true rfl)⟩) hD hS hA (fun r8 H locs e_r8 hP hD hS => ?_)
      subst e_r8
      exact gw_lret hx hb hr hlocks hK hP hD hS (Nat.le_of_ble_eq_true rfl) (Nat.le_of_ble_eq_true rfl) d_T_ofTerms_37 ⟨by unfold lr_ofT; simp [c1, c5], rfl⟩
    · refine lv_aload_n hx hb d_T_ofTerms_8 rfl (lv_at hl 0 rfl) ?_
      refine lv_iload_n hx hb d_T_ofTerms_9 rfl (lv_at hl 1 rfl) ?_
      refine lv_if_ne (tgt := 17) hx hb d_T_ofTerms_10 (by decide) (fun c9 => ?_) (fun c9 => ?_)
      · refine lv_iload_n hx hb d_T_ofTerms_17 rfl (lv_at hl 1 rfl) ?_
        refine gw_ci0 (gc_T_33 (As := [.int x]) (rest := [.ref h]) hF hT (c_X_placeOf hsx (by assumption)) ⟨(Nat.le_of_ble_eq_true rfl), (Nat.le_of_ble_eq_true rfl)⟩ rfl rfl hK hN hP hD rfl hl.1 rfl (Nat.le_of_ble_eq_true rfl) d_T_ofTerms_18 ⟨(Nat.le_of_ble_eq_true rfl), (Nat.le_of_ble_eq_true rfl)⟩) hD hS hA (fun r10 H locs e_r10 hP hD hS => ?_)
        subst e_r10
        refine gw_cl0 (gc_T_37 (As := [.int (nI (lr_pl x))]) (rest := []) hF hT (c_T_half ⟨hO, hC⟩ hn (by first | exact hpx (by assumption) | exact hpy (by assumption))) ⟨(Nat.le_of_ble_eq_true rfl), (Nat.le_of_ble_eq_true rfl)⟩ rfl rfl hK hN hP hD hO rfl hl.1 rfl (Nat.le_of_ble_eq_true rfl) d_T_ofTerms_21 ⟨(Nat.le_of_ble_eq_true rfl), (Nat.le_of_ble_eq_true rfl)⟩) hD hS hA (fun r11 H locs e_r11 hP hD hS => ?_)
        subst e_r11
        exact gw_lret hx hb hr hlocks hK hP hD hS (Nat.le_of_ble_eq_true rfl) (Nat.le_of_ble_eq_true rfl) d_T_ofTerms_24 ⟨by unfold lr_ofT; simp [c1, c5, c9], rfl⟩
      · exact absurd ‹x = 0› ‹¬ x = 0›

set_option maxHeartbeats 4000000 in
set_option maxRecDepth 100000 in
theorem c_T_takeFrom {l : Launch} {D : va_G} {cJ cI cZ cS : ClassId} {ws : va_W} {sz : Nat} {j h g n : Nat} {f : Nat → Int64} (ht : tbAt cJ ws j h g n f) (hn : n ≤ 10) {j2 h2 g2 : Nat} {f2 : Nat → Int64} (ht2 : tbAt cJ ws j2 h2 g2 n f2) : Met l y_T_takeFrom w_T_takeFrom ({ frames := 1, cells := 0, slots := 0, locals := 30 } : Room) (gw_Pc D classes (gT cJ cI cZ cS) [.ref h, .ref h2] ws sz) (va_Qv (fun w => tbAt cJ w j h g n (lr_copy f2 f (n * n)) ∧ gF (j + 1) (j + 2) ws w) (gw_B D classes (gT cJ cI cZ cS) ws sz) (va_A ws sz)) 0 0 (va_A ws sz) := by
  refine gw_head (by decide) (Nat.le_of_ble_eq_true rfl) (fun p e s m below meth c hsz hx hb hr hlocks hml hown hnm hts hK hN hP hD hS hA ls hl => ?_)
  have hown : s.vm.findClass R_T = some m.cls := hown
  have hT : ∀ w ∈ wG, w ∈ Cond.code y_T_takeFrom b_T_takeFrom 2 none :: wG := gd_t _
  have hF : CallFix p m c b_T_takeFrom 2 s ([.ref h, .ref h2] : List Value).toArray (Cond.code y_T_takeFrom b_T_takeFrom 2 none :: wG) R_T := ⟨hx, hb, hml, hown, hts⟩
  have hl : lv_has ls 2 [(0, .ref h), (1, .ref h2)] := hl
  obtain ⟨hO, hC⟩ := ht
  obtain ⟨hO2, hC2⟩ := ht2
  have hfr : gF (j + 1) (j + 2) ws ws := gF.rf
  refine lv_aload_n hx hb d_T_takeFrom_0 rfl (lv_at hl 1 rfl) ?_
  refine gf_T_15 hF hT hK hP hO2 rfl d_T_takeFrom_1 ?_
  refine lv_iconst (v := nI 0) hx hb d_T_takeFrom_4 (by decide) ?_
  refine lv_aload_n hx hb d_T_takeFrom_5 rfl (lv_at hl 0 rfl) ?_
  refine gf_T_15 hF hT hK hP hO rfl d_T_takeFrom_6 ?_
  refine lv_iconst (v := nI 0) hx hb d_T_takeFrom_9 (by decide) ?_
  refine lv_aload_n hx hb d_T_takeFrom_10 rfl (lv_at hl 0 rfl) ?_
  refine gf_T_15 hF hT hK hP hO rfl d_T_takeFrom_11 ?_
  refine va_alen (v := nI (n * n)) hx hb hK hP _ 0 hC rfl rfl d_T_takeFrom_14 ?_
  refine lv_aload_n hx hb d_T_takeFrom_15 rfl (lv_at hl 1 rfl) ?_
  refine gf_T_15 hF hT hK hP hO2 rfl d_T_takeFrom_16 ?_
  refine va_alen (v := nI (n * n)) hx hb hK hP _ 0 hC2 rfl rfl d_T_takeFrom_19 ?_
  refine va_mmin hx hb (by rw [hml]; exact hl.1.symm) hown (hts _ (hT _ wm_1_236)) (hts _ (hT _ wm_1_23)) (hts _ (hT _ wm_1_2)) (hts _ (hT _ wm_1_24)) (Nat.le_of_ble_eq_true rfl) (Nat.le_of_ble_eq_true rfl) (Nat.le_of_ble_eq_true rfl) (Nat.le_of_ble_eq_true rfl) d_T_takeFrom_20 ?_
  refine gx_i (y := nI (n * n)) (by simp) ?_
  refine g_copyl (t0 := 0) (N := n * n) hx hb (by rw [hml]; exact hl.1.symm) hown (hts _ (hT _ wm_1_237)) (hts _ (hT _ wm_1_239)) (hts _ (hT _ wm_1_238)) (hts _ (hT _ wm_1_12)) hK hP hD hS hC2 hC rfl (Nat.le_refl _) (Nat.le_refl _) (lr_sq hn) (Nat.le_of_ble_eq_true rfl) (Nat.le_of_ble_eq_true rfl) d_T_takeFrom_23 (fun w H locs hC hf hP hD hS => ?_)
  have hO := hf.at hO (by omega)
  have hfr := hfr.in hf (by omega) (by omega)
  exact gw_vret hx hb hr hlocks hK hP hD hS (Nat.le_of_ble_eq_true rfl) (Nat.le_of_ble_eq_true rfl) d_T_takeFrom_26 ⟨⟨hO, hC⟩, hfr⟩

set_option maxHeartbeats 4000000 in
set_option maxRecDepth 100000 in
theorem c_T_countRows {l : Launch} {D : va_G} {cJ cI cZ cS : ClassId} {ws : va_W} {sz : Nat} {j h g n : Nat} {f : Nat → Int64} (ht : tbAt cJ ws j h g n f) (hn : n ≤ 10) : Met l y_T_countRows w_T_countRows ({ frames := 2, cells := 0, slots := 0, locals := 22 } : Room) (gw_Pc D classes (gT cJ cI cZ cS) [.ref h] ws sz) (va_Qi (fun r w => (r = nI (lr_count f n)) ∧ w = ws) (gw_B D classes (gT cJ cI cZ cS) ws sz) (va_A ws sz)) 0 0 (va_A ws sz) := by
  refine gw_head (by decide) (Nat.le_of_ble_eq_true rfl) (fun p e s m below meth c hsz hx hb hr hlocks hml hown hnm hts hK hN hP hD hS hA ls hl => ?_)
  have hown : s.vm.findClass R_T = some m.cls := hown
  have hT : ∀ w ∈ wG, w ∈ Cond.code y_T_countRows b_T_countRows 4 (some .int) :: wG := gd_t _
  have hF : CallFix p m c b_T_countRows 4 s ([.ref h] : List Value).toArray (Cond.code y_T_countRows b_T_countRows 4 (some .int) :: wG) R_T := ⟨hx, hb, hml, hown, hts⟩
  have hl : lv_has ls 4 [(0, .ref h)] := hl
  obtain ⟨hO, hC⟩ := ht
  refine lv_iconst (v := nI 0) hx hb d_T_countRows_0 (by decide) ?_
  refine lv_istore_n (lv' := [(1, .int (nI 0)), (0, .ref h)]) hx hb d_T_countRows_1 rfl hl (by decide) rfl (fun ls hl => ?_)
  refine lv_iconst (v := nI 0) hx hb d_T_countRows_2 (by decide) ?_
  refine lv_istore_n (lv' := [(2, .int (nI 0)), (1, .int (nI 0)), (0, .ref h)]) hx hb d_T_countRows_3 rfl hl (by decide) rfl (fun ls hl => ?_)
  have lp_4 : ∀ (dd i : Nat), i + dd = n → ∀ (H : Heap) (locs : List Loc) (ls : Array Slot), va_P D classes ws H → va_D (va_A ws sz) ws → va_S (va_A ws sz) s.heap H locs → lv_has ls 4 [(2, .int (nI i)), (1, .int (nI (lr_it (fun i a => lr_it (fun t a => a + (if f (i * n + (i + t)) = lr_E then 0 else 1)) (n - i) a) i 0))), (0, .ref h)] → W p l e ({ frames := 2, cells := 0, slots := 0, locals := 22 } : Room) s m ([.ref h] : List Value).toArray below meth c H locs 0 0 (MQ below (va_Qi (fun r w => (r = nI (lr_count f n)) ∧ w = ws) (gw_B D classes (gT cJ cI cZ cS) ws sz) (va_A ws sz)) ([.ref h] : List Value).toArray s 0 0 (va_A ws sz)) (F0 m 4 ls []) := by
    intro dd
    induction dd with
    | zero =>
      intro i e_i H locs ls hP hD hS hl
      have e0_i : n = i := by omega
      subst e0_i
      refine lv_iload_n hx hb d_T_countRows_4 rfl (lv_at hl 0 rfl) ?_
      refine lv_aload_n hx hb d_T_countRows_5 rfl (lv_at hl 2 rfl) ?_
      refine gf_T_9 hF hT hK hP hO rfl d_T_countRows_6 ?_
      refine lv_icmp_ge (tgt := 55) hx hb d_T_countRows_9 (by decide) (fun c1 => ?_) (fun c1 => ?_)
      · have c1 := (nI_leI (a := n) (b := n) (by omega) (by omega)).mp c1
        refine lv_iload_n hx hb d_T_countRows_55 rfl (lv_at hl 1 rfl) ?_
        exact gw_iret hx hb hr hlocks hK hP hD hS (Nat.le_of_ble_eq_true rfl) (Nat.le_of_ble_eq_true rfl) d_T_countRows_56 ⟨rfl, rfl⟩
      · have c1 : ¬ (n ≤ n) := fun z => c1 ((nI_leI (a := n) (b := n) (by omega) (by omega)).mpr z)
        exfalso; omega
    | succ dd ih_4 =>
      intro i e_i H locs ls hP hD hS hl
      refine lv_iload_n hx hb d_T_countRows_4 rfl (lv_at hl 0 rfl) ?_
      refine lv_aload_n hx hb d_T_countRows_5 rfl (lv_at hl 2 rfl) ?_
      refine gf_T_9 hF hT hK hP hO rfl d_T_countRows_6 ?_
      refine lv_icmp_ge (tgt := 55) hx hb d_T_countRows_9 (by decide) (fun c2 => ?_) (fun c2 => ?_)
      · have c2 := (nI_leI (a := n) (b := i) (by omega) (by omega)).mp c2
        exfalso; omega
      · have c2 : ¬ (n ≤ i) := fun z => c2 ((nI_leI (a := n) (b := i) (by omega) (by omega)).mpr z)
        refine lv_iload_n hx hb d_T_countRows_12 rfl (lv_at hl 0 rfl) ?_
        refine lv_istore_n (lv' := [(3, .int (nI i)), (2, .int (nI i)), (1, .int (nI (lr_it (fun i a => lr_it (fun t a => a + (if f (i * n + (i + t)) = lr_E then 0 else 1)) (n - i) a) i 0))), (0, .ref h)]) hx hb d_T_countRows_13 rfl hl (by decide) rfl (fun ls hl => ?_)
        have lp_14 : ∀ (dd t : Nat), t + dd = (n - i) → ∀ (H : Heap) (locs : List Loc) (ls : Array Slot), va_P D classes ws H → va_D (va_A ws sz) ws → va_S (va_A ws sz) s.heap H locs → lv_has ls 4 [(3, .int (nI (i + t))), (2, .int (nI i)), (1, .int (nI (lr_it (fun t a => a + (if f (i * n + (i + t)) = lr_E then 0 else 1)) t (lr_it (fun i a => lr_it (fun t a => a + (if f (i * n + (i + t)) = lr_E then 0 else 1)) (n - i) a) i 0)))), (0, .ref h)] → W p l e ({ frames := 2, cells := 0, slots := 0, locals := 22 } : Room) s m ([.ref h] : List Value).toArray below meth c H locs 0 0 (MQ below (va_Qi (fun r w => (r = nI (lr_count f n)) ∧ w = ws) (gw_B D classes (gT cJ cI cZ cS) ws sz) (va_A ws sz)) ([.ref h] : List Value).toArray s 0 0 (va_A ws sz)) (F0 m 14 ls []) := by
          intro dd
          induction dd with
          | zero =>
            intro t e_t H locs ls hP hD hS hl
            have e0_t : (n - i) = t := by omega
            subst e0_t
            refine lv_iload_n hx hb d_T_countRows_14 rfl (lv_at hl 0 rfl) ?_
            refine lv_aload_n hx hb d_T_countRows_15 rfl (lv_at hl 3 rfl) ?_
            refine gf_T_9 hF hT hK hP hO rfl d_T_countRows_16 ?_
            refine lv_icmp_ge (tgt := 49) hx hb d_T_countRows_19 (by decide) (fun c3 => ?_) (fun c3 => ?_)
            · have c3 := (nI_leI (a := n) (b := (i + (n - i))) (by omega) (by omega)).mp c3
              refine lv_iinc (v := nI (i + 1)) (lv' := [(2, .int (nI (i + 1))), (3, .int (nI (i + (n - i)))), (1, .int (nI (lr_it (fun t a => a + (if f (i * n + (i + t)) = lr_E then 0 else 1)) (n - i) (lr_it (fun i a => lr_it (fun t a => a + (if f (i * n + (i + t)) = lr_E then 0 else 1)) (n - i) a) i 0)))), (0, .ref h)]) hx hb d_T_countRows_49 hl (k := 1) rfl (gx_inc _) (by decide) rfl (fun ls hl => ?_)
              refine lv_goto (tgt := 4) hx hb d_T_countRows_52 (by decide) ?_
              exact ih_4 (i + 1) (by omega) _ _ _  hP hD hS (lv_sub hl [0, 2, 3] rfl)
            · have c3 : ¬ (n ≤ i + (n - i)) := fun z => c3 ((nI_leI (a := n) (b := (i + (n - i))) (by omega) (by omega)).mpr z)
              exfalso; omega
          | succ dd ih_14 =>
            intro t e_t H locs ls hP hD hS hl
            refine lv_iload_n hx hb d_T_countRows_14 rfl (lv_at hl 0 rfl) ?_
            refine lv_aload_n hx hb d_T_countRows_15 rfl (lv_at hl 3 rfl) ?_
            refine gf_T_9 hF hT hK hP hO rfl d_T_countRows_16 ?_
            refine lv_icmp_ge (tgt := 49) hx hb d_T_countRows_19 (by decide) (fun c4 => ?_) (fun c4 => ?_)
            · have c4 := (nI_leI (a := n) (b := (i + t)) (by omega) (by omega)).mp c4
              exfalso; omega
            · have c4 : ¬ (n ≤ i + t) := fun z => c4 ((nI_leI (a := n) (b := (i + t)) (by omega) (by omega)).mpr z)
              refine lv_iload_n hx hb d_T_countRows_22 rfl (lv_at hl 2 rfl) ?_
              refine lv_aload_n hx hb d_T_countRows_23 rfl (lv_at hl 3 rfl) ?_
              refine lv_iload_n hx hb d_T_countRows_24 rfl (lv_at hl 1 rfl) ?_
              refine lv_iload_n hx hb d_T_countRows_25 rfl (lv_at hl 0 rfl) ?_
              refine gw_cl0 (gc_T_27 (As := [.int (nI i), .int (nI (i + t))]) (rest := [.int (nI (lr_it (fun t a => a + (if f (i * n + (i + t)) = lr_E then 0 else 1)) t (lr_it (fun i a => lr_it (fun t a => a + (if f (i * n + (i + t)) = lr_E then 0 else 1)) (n - i) a) i 0)))]) hF hT (c_T_at ⟨hO, hC⟩ hn (by omega) (by omega)) ⟨(Nat.le_of_ble_eq_true rfl), (Nat.le_of_ble_eq_true rfl)⟩ rfl rfl hK hN hP hD hO rfl hl.1 rfl (Nat.le_of_ble_eq_true rfl) d_T_countRows_26 ⟨(Nat.le_of_ble_eq_true rfl), (Nat.le_of_ble_eq_true rfl)⟩) hD hS hA (fun r5 H locs e_r5 hP hD hS => ?_)
              subst e_r5
              refine lv_ldc2 (v := lr_E) hx hb hown (hts _ (hT _ wm_1_41)) d_T_countRows_29 ?_
              refine gx_lne (tgt := 40) hx hb d_T_countRows_32 d_T_countRows_33 (by decide) (fun c6 => ?_) (fun c6 => ?_)
              · refine lv_iconst (v := nI 1) hx hb d_T_countRows_40 (by decide) ?_
                refine lv_iadd hx hb d_T_countRows_41 ?_
                refine gx_i (y := nI ((lr_it (fun t a => a + (if f (i * n + (i + t)) = lr_E then 0 else 1)) t (lr_it (fun i a => lr_it (fun t a => a + (if f (i * n + (i + t)) = lr_E then 0 else 1)) (n - i) a) i 0)) + 1)) (nI_add _ _) ?_
                refine lv_istore_n (lv' := [(1, .int (nI ((lr_it (fun t a => a + (if f (i * n + (i + t)) = lr_E then 0 else 1)) t (lr_it (fun i a => lr_it (fun t a => a + (if f (i * n + (i + t)) = lr_E then 0 else 1)) (n - i) a) i 0)) + 1))), (3, .int (nI (i + t))), (2, .int (nI i)), (0, .ref h)]) hx hb d_T_countRows_42 rfl hl (by decide) rfl (fun ls hl => ?_)
                refine lv_iinc (v := nI (i + t + 1)) (lv' := [(3, .int (nI (i + t + 1))), (1, .int (nI ((lr_it (fun t a => a + (if f (i * n + (i + t)) = lr_E then 0 else 1)) t (lr_it (fun i a => lr_it (fun t a => a + (if f (i * n + (i + t)) = lr_E then 0 else 1)) (n - i) a) i 0)) + 1))), (2, .int (nI i)), (0, .ref h)]) hx hb d_T_countRows_43 hl (k := 1) rfl (gx_inc _) (by decide) rfl (fun ls hl => ?_)
                refine lv_goto (tgt := 14) hx hb d_T_countRows_46 (by decide) ?_
                have eB7 : lr_it (fun t a => a + (if f (i * n + (i + t)) = lr_E then 0 else 1)) (t + 1) (lr_it (fun i a => lr_it (fun t a => a + (if f (i * n + (i + t)) = lr_E then 0 else 1)) (n - i) a) i 0) = (lr_it (fun t a => a + (if f (i * n + (i + t)) = lr_E then 0 else 1)) t (lr_it (fun i a => lr_it (fun t a => a + (if f (i * n + (i + t)) = lr_E then 0 else 1)) (n - i) a) i 0)) + 1 := by show _ + _ = _; simp [c6]
                rw [← eB7] at hl
                exact ih_14 (t + 1) (by omega) _ _ _  hP hD hS (lv_sub hl [0, 2, 1, 3] rfl)
              · refine lv_iconst (v := nI 0) hx hb d_T_countRows_36 (by decide) ?_
                refine lv_goto (tgt := 41) hx hb d_T_countRows_37 (by decide) ?_
                refine lv_iadd hx hb d_T_countRows_41 ?_
                refine gx_i (y := nI ((lr_it (fun t a => a + (if f (i * n + (i + t)) = lr_E then 0 else 1)) t (lr_it (fun i a => lr_it (fun t a => a + (if f (i * n + (i + t)) = lr_E then 0 else 1)) (n - i) a) i 0)) + 0)) (nI_add _ _) ?_
                refine lv_istore_n (lv' := [(1, .int (nI ((lr_it (fun t a => a + (if f (i * n + (i + t)) = lr_E then 0 else 1)) t (lr_it (fun i a => lr_it (fun t a => a + (if f (i * n + (i + t)) = lr_E then 0 else 1)) (n - i) a) i 0)) + 0))), (3, .int (nI (i + t))), (2, .int (nI i)), (0, .ref h)]) hx hb d_T_countRows_42 rfl hl (by decide) rfl (fun ls hl => ?_)
                refine lv_iinc (v := nI (i + t + 1)) (lv' := [(3, .int (nI (i + t + 1))), (1, .int (nI ((lr_it (fun t a => a + (if f (i * n + (i + t)) = lr_E then 0 else 1)) t (lr_it (fun i a => lr_it (fun t a => a + (if f (i * n + (i + t)) = lr_E then 0 else 1)) (n - i) a) i 0)) + 0))), (2, .int (nI i)), (0, .ref h)]) hx hb d_T_countRows_43 hl (k := 1) rfl (gx_inc _) (by decide) rfl (fun ls hl => ?_)
                refine lv_goto (tgt := 14) hx hb d_T_countRows_46 (by decide) ?_
                have eB8 : lr_it (fun t a => a + (if f (i * n + (i + t)) = lr_E then 0 else 1)) (t + 1) (lr_it (fun i a => lr_it (fun t a => a + (if f (i * n + (i + t)) = lr_E then 0 else 1)) (n - i) a) i 0) = (lr_it (fun t a => a + (if f (i * n + (i + t)) = lr_E then 0 else 1)) t (lr_it (fun i a => lr_it (fun t a => a + (if f (i * n + (i + t)) = lr_E then 0 else 1)) (n - i) a) i 0)) + 0 := by show _ + _ = _; simp [c6]
                rw [← eB8] at hl
                exact ih_14 (t + 1) (by omega) _ _ _  hP hD hS (lv_sub hl [0, 2, 1, 3] rfl)
        exact lp_14 (n - i) 0 (by omega) _ _ _  hP hD hS (lv_sub hl [0, 1, 2, 3] rfl)
  exact lp_4 n 0 (by omega) _ _ _  hP hD hS (lv_sub hl [0, 1, 2] rfl)

set_option maxHeartbeats 4000000 in
set_option maxRecDepth 100000 in
theorem c_T_isNowhereAbove {l : Launch} {D : va_G} {cJ cI cZ cS : ClassId} {ws : va_W} {sz : Nat} {j h g n : Nat} {f : Nat → Int64} (ht : tbAt cJ ws j h g n f) (hn : n ≤ 10) {j2 h2 g2 : Nat} {f2 : Nat → Int64} (ht2 : tbAt cJ ws j2 h2 g2 n f2) : Met l y_T_isNowhereAbove w_T_isNowhereAbove ({ frames := 2, cells := 0, slots := 0, locals := 22 } : Room) (gw_Pc D classes (gT cJ cI cZ cS) [.ref h, .ref h2] ws sz) (va_Qi (fun r w => ((r = nI 1 ∧ ∀ i, i < n → ∀ t, t < n - i → f (i * n + (i + t)) ≤ f2 (i * n + (i + t))) ∨ (r = nI 0 ∧ ¬ ∀ i, i < n → ∀ t, t < n - i → f (i * n + (i + t)) ≤ f2 (i * n + (i + t)))) ∧ w = ws) (gw_B D classes (gT cJ cI cZ cS) ws sz) (va_A ws sz)) 0 0 (va_A ws sz) := by
  refine gw_head (by decide) (Nat.le_of_ble_eq_true rfl) (fun p e s m below meth c hsz hx hb hr hlocks hml hown hnm hts hK hN hP hD hS hA ls hl => ?_)
  have hown : s.vm.findClass R_T = some m.cls := hown
  have hT : ∀ w ∈ wG, w ∈ Cond.code y_T_isNowhereAbove b_T_isNowhereAbove 4 (some .boolean) :: wG := gd_t _
  have hF : CallFix p m c b_T_isNowhereAbove 4 s ([.ref h, .ref h2] : List Value).toArray (Cond.code y_T_isNowhereAbove b_T_isNowhereAbove 4 (some .boolean) :: wG) R_T := ⟨hx, hb, hml, hown, hts⟩
  have hl : lv_has ls 4 [(0, .ref h), (1, .ref h2)] := hl
  obtain ⟨hO, hC⟩ := ht
  obtain ⟨hO2, hC2⟩ := ht2
  refine lv_iconst (v := nI 0) hx hb d_T_isNowhereAbove_0 (by decide) ?_
  refine lv_istore_n (lv' := [(2, .int (nI 0)), (0, .ref h), (1, .ref h2)]) hx hb d_T_isNowhereAbove_1 rfl hl (by decide) rfl (fun ls hl => ?_)
  have lp_2 : ∀ (dd i : Nat), i + dd = n → ∀ (H : Heap) (locs : List Loc) (ls : Array Slot), (∀ a, a < i → ∀ t, t < n - a → f (a * n + (a + t)) ≤ f2 (a * n + (a + t))) → va_P D classes ws H → va_D (va_A ws sz) ws → va_S (va_A ws sz) s.heap H locs → lv_has ls 4 [(2, .int (nI i)), (0, .ref h), (1, .ref h2)] → W p l e ({ frames := 2, cells := 0, slots := 0, locals := 22 } : Room) s m ([.ref h, .ref h2] : List Value).toArray below meth c H locs 0 0 (MQ below (va_Qi (fun r w => ((r = nI 1 ∧ ∀ i, i < n → ∀ t, t < n - i → f (i * n + (i + t)) ≤ f2 (i * n + (i + t))) ∨ (r = nI 0 ∧ ¬ ∀ i, i < n → ∀ t, t < n - i → f (i * n + (i + t)) ≤ f2 (i * n + (i + t)))) ∧ w = ws) (gw_B D classes (gT cJ cI cZ cS) ws sz) (va_A ws sz)) ([.ref h, .ref h2] : List Value).toArray s 0 0 (va_A ws sz)) (F0 m 2 ls []) := by
    intro dd
    induction dd with
    | zero =>
      intro i e_i H locs ls ha hP hD hS hl
      have e0_i : n = i := by omega
      subst e0_i
      refine lv_iload_n hx hb d_T_isNowhereAbove_2 rfl (lv_at hl 0 rfl) ?_
      refine lv_aload_n hx hb d_T_isNowhereAbove_3 rfl (lv_at hl 1 rfl) ?_
      refine gf_T_9 hF hT hK hP hO rfl d_T_isNowhereAbove_4 ?_
      refine lv_icmp_ge (tgt := 50) hx hb d_T_isNowhereAbove_7 (by decide) (fun c1 => ?_) (fun c1 => ?_)
      · have c1 := (nI_leI (a := n) (b := n) (by omega) (by omega)).mp c1
        refine lv_iconst (v := nI 1) hx hb d_T_isNowhereAbove_50 (by decide) ?_
        exact gw_zret hx hb hr hlocks hK hP hD hS (Nat.le_of_ble_eq_true rfl) (Nat.le_of_ble_eq_true rfl) rfl d_T_isNowhereAbove_51 ⟨Or.inl ⟨rfl, fun a h => ha a (by omega)⟩, rfl⟩
      · have c1 : ¬ (n ≤ n) := fun z => c1 ((nI_leI (a := n) (b := n) (by omega) (by omega)).mpr z)
        exfalso; omega
    | succ dd ih_2 =>
      intro i e_i H locs ls ha hP hD hS hl
      refine lv_iload_n hx hb d_T_isNowhereAbove_2 rfl (lv_at hl 0 rfl) ?_
      refine lv_aload_n hx hb d_T_isNowhereAbove_3 rfl (lv_at hl 1 rfl) ?_
      refine gf_T_9 hF hT hK hP hO rfl d_T_isNowhereAbove_4 ?_
      refine lv_icmp_ge (tgt := 50) hx hb d_T_isNowhereAbove_7 (by decide) (fun c2 => ?_) (fun c2 => ?_)
      · have c2 := (nI_leI (a := n) (b := i) (by omega) (by omega)).mp c2
        exfalso; omega
      · have c2 : ¬ (n ≤ i) := fun z => c2 ((nI_leI (a := n) (b := i) (by omega) (by omega)).mpr z)
        refine lv_iload_n hx hb d_T_isNowhereAbove_10 rfl (lv_at hl 0 rfl) ?_
        refine lv_istore_n (lv' := [(3, .int (nI i)), (2, .int (nI i)), (0, .ref h), (1, .ref h2)]) hx hb d_T_isNowhereAbove_11 rfl hl (by decide) rfl (fun ls hl => ?_)
        have lp_12 : ∀ (dd t : Nat), t + dd = (n - i) → ∀ (H : Heap) (locs : List Loc) (ls : Array Slot), (∀ b, b < t → f (i * n + (i + b)) ≤ f2 (i * n + (i + b))) → va_P D classes ws H → va_D (va_A ws sz) ws → va_S (va_A ws sz) s.heap H locs → lv_has ls 4 [(3, .int (nI (i + t))), (2, .int (nI i)), (0, .ref h), (1, .ref h2)] → W p l e ({ frames := 2, cells := 0, slots := 0, locals := 22 } : Room) s m ([.ref h, .ref h2] : List Value).toArray below meth c H locs 0 0 (MQ below (va_Qi (fun r w => ((r = nI 1 ∧ ∀ i, i < n → ∀ t, t < n - i → f (i * n + (i + t)) ≤ f2 (i * n + (i + t))) ∨ (r = nI 0 ∧ ¬ ∀ i, i < n → ∀ t, t < n - i → f (i * n + (i + t)) ≤ f2 (i * n + (i + t)))) ∧ w = ws) (gw_B D classes (gT cJ cI cZ cS) ws sz) (va_A ws sz)) ([.ref h, .ref h2] : List Value).toArray s 0 0 (va_A ws sz)) (F0 m 12 ls []) := by
          intro dd
          induction dd with
          | zero =>
            intro t e_t H locs ls hq hP hD hS hl
            have e0_t : (n - i) = t := by omega
            subst e0_t
            refine lv_iload_n hx hb d_T_isNowhereAbove_12 rfl (lv_at hl 0 rfl) ?_
            refine lv_aload_n hx hb d_T_isNowhereAbove_13 rfl (lv_at hl 2 rfl) ?_
            refine gf_T_9 hF hT hK hP hO rfl d_T_isNowhereAbove_14 ?_
            refine lv_icmp_ge (tgt := 44) hx hb d_T_isNowhereAbove_17 (by decide) (fun c3 => ?_) (fun c3 => ?_)
            · have c3 := (nI_leI (a := n) (b := (i + (n - i))) (by omega) (by omega)).mp c3
              refine lv_iinc (v := nI (i + 1)) (lv' := [(2, .int (nI (i + 1))), (3, .int (nI (i + (n - i)))), (0, .ref h), (1, .ref h2)]) hx hb d_T_isNowhereAbove_44 hl (k := 1) rfl (gx_inc _) (by decide) rfl (fun ls hl => ?_)
              refine lv_goto (tgt := 2) hx hb d_T_isNowhereAbove_47 (by decide) ?_
              exact ih_2 (i + 1) (by omega) _ _ _  (lt_s ha (fun t ht => hq t (by omega))) hP hD hS (lv_sub hl [0, 2, 3] rfl)
            · have c3 : ¬ (n ≤ i + (n - i)) := fun z => c3 ((nI_leI (a := n) (b := (i + (n - i))) (by omega) (by omega)).mpr z)
              exfalso; omega
          | succ dd ih_12 =>
            intro t e_t H locs ls hq hP hD hS hl
            refine lv_iload_n hx hb d_T_isNowhereAbove_12 rfl (lv_at hl 0 rfl) ?_
            refine lv_aload_n hx hb d_T_isNowhereAbove_13 rfl (lv_at hl 2 rfl) ?_
            refine gf_T_9 hF hT hK hP hO rfl d_T_isNowhereAbove_14 ?_
            refine lv_icmp_ge (tgt := 44) hx hb d_T_isNowhereAbove_17 (by decide) (fun c4 => ?_) (fun c4 => ?_)
            · have c4 := (nI_leI (a := n) (b := (i + t)) (by omega) (by omega)).mp c4
              exfalso; omega
            · have c4 : ¬ (n ≤ i + t) := fun z => c4 ((nI_leI (a := n) (b := (i + t)) (by omega) (by omega)).mpr z)
              refine lv_aload_n hx hb d_T_isNowhereAbove_20 rfl (lv_at hl 2 rfl) ?_
              refine lv_iload_n hx hb d_T_isNowhereAbove_21 rfl (lv_at hl 1 rfl) ?_
              refine lv_iload_n hx hb d_T_isNowhereAbove_22 rfl (lv_at hl 0 rfl) ?_
              refine gw_cl0 (gc_T_27 (As := [.int (nI i), .int (nI (i + t))]) (rest := []) hF hT (c_T_at ⟨hO, hC⟩ hn (by omega) (by omega)) ⟨(Nat.le_of_ble_eq_true rfl), (Nat.le_of_ble_eq_true rfl)⟩ rfl rfl hK hN hP hD hO rfl hl.1 rfl (Nat.le_of_ble_eq_true rfl) d_T_isNowhereAbove_23 ⟨(Nat.le_of_ble_eq_true rfl), (Nat.le_of_ble_eq_true rfl)⟩) hD hS hA (fun r5 H locs e_r5 hP hD hS => ?_)
              subst e_r5
              refine lv_aload_n hx hb d_T_isNowhereAbove_26 rfl (lv_at hl 3 rfl) ?_
              refine lv_iload_n hx hb d_T_isNowhereAbove_27 rfl (lv_at hl 1 rfl) ?_
              refine lv_iload_n hx hb d_T_isNowhereAbove_28 rfl (lv_at hl 0 rfl) ?_
              refine gw_cl0 (gc_T_27 (As := [.int (nI i), .int (nI (i + t))]) (rest := [.long (f (i * n + (i + t)))]) hF hT (c_T_at ⟨hO2, hC2⟩ hn (by omega) (by omega)) ⟨(Nat.le_of_ble_eq_true rfl), (Nat.le_of_ble_eq_true rfl)⟩ rfl rfl hK hN hP hD hO2 rfl hl.1 rfl (Nat.le_of_ble_eq_true rfl) d_T_isNowhereAbove_29 ⟨(Nat.le_of_ble_eq_true rfl), (Nat.le_of_ble_eq_true rfl)⟩) hD hS hA (fun r6 H locs e_r6 hP hD hS => ?_)
              subst e_r6
              refine gx_lle (tgt := 38) hx hb d_T_isNowhereAbove_32 d_T_isNowhereAbove_33 (by decide) (fun c7 => ?_) (fun c7 => ?_)
              · refine lv_iinc (v := nI (i + t + 1)) (lv' := [(3, .int (nI (i + t + 1))), (2, .int (nI i)), (0, .ref h), (1, .ref h2)]) hx hb d_T_isNowhereAbove_38 hl (k := 0) rfl (gx_inc _) (by decide) rfl (fun ls hl => ?_)
                refine lv_goto (tgt := 12) hx hb d_T_isNowhereAbove_41 (by decide) ?_
                exact ih_12 (t + 1) (by omega) _ _ _  (lt_s hq c7) hP hD hS (lv_sub hl [0, 1, 2, 3] rfl)
              · refine lv_iconst (v := nI 0) hx hb d_T_isNowhereAbove_36 (by decide) ?_
                exact gw_zret hx hb hr hlocks hK hP hD hS (Nat.le_of_ble_eq_true rfl) (Nat.le_of_ble_eq_true rfl) rfl d_T_isNowhereAbove_37 ⟨Or.inr ⟨rfl, fun q => c7 (q i (by omega) t (by omega))⟩, rfl⟩
        exact lp_12 (n - i) 0 (by omega) _ _ _  lt_0 hP hD hS (lv_sub hl [0, 1, 2, 3] rfl)
  exact lp_2 n 0 (by omega) _ _ _  lt_0 hP hD hS (lv_sub hl [0, 1, 2] rfl)

set_option maxHeartbeats 4000000 in
set_option maxRecDepth 100000 in
theorem c_T_hasOppositesBelowZero {l : Launch} {D : va_G} {cJ cI cZ cS : ClassId} {ws : va_W} {sz : Nat} {j h g n : Nat} {f : Nat → Int64} (ht : tbAt cJ ws j h g n f) (hn : n ≤ 10) (he : n % 2 = 0) : Met l y_T_hasOppositesBelowZero w_T_hasOppositesBelowZero ({ frames := 2, cells := 0, slots := 0, locals := 22 } : Room) (gw_Pc D classes (gT cJ cI cZ cS) [.ref h] ws sz) (va_Qi (fun r w => ((r = nI 1 ∧ lr_oppNeg f n) ∨ (r = nI 0 ∧ ¬ lr_oppNeg f n)) ∧ w = ws) (gw_B D classes (gT cJ cI cZ cS) ws sz) (va_A ws sz)) 0 0 (va_A ws sz) := by
  refine gw_head (by decide) (Nat.le_of_ble_eq_true rfl) (fun p e s m below meth c hsz hx hb hr hlocks hml hown hnm hts hK hN hP hD hS hA ls hl => ?_)
  have hown : s.vm.findClass R_T = some m.cls := hown
  have hT : ∀ w ∈ wG, w ∈ Cond.code y_T_hasOppositesBelowZero b_T_hasOppositesBelowZero 2 (some .boolean) :: wG := gd_t _
  have hF : CallFix p m c b_T_hasOppositesBelowZero 2 s ([.ref h] : List Value).toArray (Cond.code y_T_hasOppositesBelowZero b_T_hasOppositesBelowZero 2 (some .boolean) :: wG) R_T := ⟨hx, hb, hml, hown, hts⟩
  have hl : lv_has ls 2 [(0, .ref h)] := hl
  obtain ⟨hO, hC⟩ := ht
  refine lv_iconst (v := nI 0) hx hb d_T_hasOppositesBelowZero_0 (by decide) ?_
  refine lv_istore_n (lv' := [(1, .int (nI 0)), (0, .ref h)]) hx hb d_T_hasOppositesBelowZero_1 rfl hl (by decide) rfl (fun ls hl => ?_)
  have lp_2 : ∀ (dd i : Nat), i + dd = n → ∀ (H : Heap) (locs : List Loc) (ls : Array Slot), (∀ a, a < i → ¬ f (a * n + lr_op a) < 0) → va_P D classes ws H → va_D (va_A ws sz) ws → va_S (va_A ws sz) s.heap H locs → lv_has ls 2 [(1, .int (nI i)), (0, .ref h)] → W p l e ({ frames := 2, cells := 0, slots := 0, locals := 22 } : Room) s m ([.ref h] : List Value).toArray below meth c H locs 0 0 (MQ below (va_Qi (fun r w => ((r = nI 1 ∧ lr_oppNeg f n) ∨ (r = nI 0 ∧ ¬ lr_oppNeg f n)) ∧ w = ws) (gw_B D classes (gT cJ cI cZ cS) ws sz) (va_A ws sz)) ([.ref h] : List Value).toArray s 0 0 (va_A ws sz)) (F0 m 2 ls []) := by
    intro dd
    induction dd with
    | zero =>
      intro i e_i H locs ls ha hP hD hS hl
      have e0_i : n = i := by omega
      subst e0_i
      refine lv_iload_n hx hb d_T_hasOppositesBelowZero_2 rfl (lv_at hl 0 rfl) ?_
      refine lv_aload_n hx hb d_T_hasOppositesBelowZero_3 rfl (lv_at hl 1 rfl) ?_
      refine gf_T_9 hF hT hK hP hO rfl d_T_hasOppositesBelowZero_4 ?_
      refine lv_icmp_ge (tgt := 31) hx hb d_T_hasOppositesBelowZero_7 (by decide) (fun c1 => ?_) (fun c1 => ?_)
      · have c1 := (nI_leI (a := n) (b := n) (by omega) (by omega)).mp c1
        refine lv_iconst (v := nI 0) hx hb d_T_hasOppositesBelowZero_31 (by decide) ?_
        exact gw_zret hx hb hr hlocks hK hP hD hS (Nat.le_of_ble_eq_true rfl) (Nat.le_of_ble_eq_true rfl) rfl d_T_hasOppositesBelowZero_32 ⟨Or.inr ⟨rfl, fun ⟨a, h1, h2⟩ => ha a (by omega) h2⟩, rfl⟩
      · have c1 : ¬ (n ≤ n) := fun z => c1 ((nI_leI (a := n) (b := n) (by omega) (by omega)).mpr z)
        exfalso; omega
    | succ dd ih_2 =>
      intro i e_i H locs ls ha hP hD hS hl
      refine lv_iload_n hx hb d_T_hasOppositesBelowZero_2 rfl (lv_at hl 0 rfl) ?_
      refine lv_aload_n hx hb d_T_hasOppositesBelowZero_3 rfl (lv_at hl 1 rfl) ?_
      refine gf_T_9 hF hT hK hP hO rfl d_T_hasOppositesBelowZero_4 ?_
      refine lv_icmp_ge (tgt := 31) hx hb d_T_hasOppositesBelowZero_7 (by decide) (fun c2 => ?_) (fun c2 => ?_)
      · have c2 := (nI_leI (a := n) (b := i) (by omega) (by omega)).mp c2
        exfalso; omega
      · have c2 : ¬ (n ≤ i) := fun z => c2 ((nI_leI (a := n) (b := i) (by omega) (by omega)).mpr z)
        refine lv_aload_n hx hb d_T_hasOppositesBelowZero_10 rfl (lv_at hl 1 rfl) ?_
        refine lv_iload_n hx hb d_T_hasOppositesBelowZero_11 rfl (lv_at hl 0 rfl) ?_
        refine lv_iload_n hx hb d_T_hasOppositesBelowZero_12 rfl (lv_at hl 0 rfl) ?_
        refine lv_iconst (v := nI 1) hx hb d_T_hasOppositesBelowZero_13 (by decide) ?_
        refine lv_ixor hx hb d_T_hasOppositesBelowZero_14 ?_
        refine gx_i (y := nI (lr_op i)) (nx_op (by omega)) ?_
        refine gw_cl0 (gc_T_27 (As := [.int (nI i), .int (nI (lr_op i))]) (rest := []) hF hT (c_T_at ⟨hO, hC⟩ hn (by omega) (lr_op_lt' he (by omega))) ⟨(Nat.le_of_ble_eq_true rfl), (Nat.le_of_ble_eq_true rfl)⟩ rfl rfl hK hN hP hD hO rfl hl.1 rfl (Nat.le_of_ble_eq_true rfl) d_T_hasOppositesBelowZero_15 ⟨(Nat.le_of_ble_eq_true rfl), (Nat.le_of_ble_eq_true rfl)⟩) hD hS hA (fun r3 H locs e_r3 hP hD hS => ?_)
        subst e_r3
        refine lv_lconst (v := 0) hx hb d_T_hasOppositesBelowZero_18 rfl ?_
        refine gx_lge (tgt := 25) hx hb d_T_hasOppositesBelowZero_19 d_T_hasOppositesBelowZero_20 (by decide) (fun c4 => ?_) (fun c4 => ?_)
        · refine lv_iinc (v := nI (i + 1)) (lv' := [(1, .int (nI (i + 1))), (0, .ref h)]) hx hb d_T_hasOppositesBelowZero_25 hl (k := 0) rfl (gx_inc _) (by decide) rfl (fun ls hl => ?_)
          refine lv_goto (tgt := 2) hx hb d_T_hasOppositesBelowZero_28 (by decide) ?_
          exact ih_2 (i + 1) (by omega) _ _ _  (lt_s ha (Int64.not_lt.mpr c4)) hP hD hS (lv_sub hl [0, 1] rfl)
        · refine lv_iconst (v := nI 1) hx hb d_T_hasOppositesBelowZero_23 (by decide) ?_
          exact gw_zret hx hb hr hlocks hK hP hD hS (Nat.le_of_ble_eq_true rfl) (Nat.le_of_ble_eq_true rfl) rfl d_T_hasOppositesBelowZero_24 ⟨Or.inl ⟨rfl, i, by omega, Int64.not_le.mp c4⟩, rfl⟩
  exact lp_2 n 0 (by omega) _ _ _  lt_0 hP hD hS (lv_sub hl [0, 1] rfl)

set_option maxHeartbeats 4000000 in
set_option maxRecDepth 100000 in
theorem c_T_hasTwicesThatContradict {l : Launch} {D : va_G} {cJ cI cZ cS : ClassId} {ws : va_W} {sz : Nat} {j h g n : Nat} {f : Nat → Int64} (ht : tbAt cJ ws j h g n f) (hn : n ≤ 10) (he : n % 2 = 0) : Met l y_T_hasTwicesThatContradict w_T_hasTwicesThatContradict ({ frames := 2, cells := 0, slots := 0, locals := 23 } : Room) (gw_Pc D classes (gT cJ cI cZ cS) [.ref h] ws sz) (va_Qi (fun r w => ((r = nI 1 ∧ lr_twNeg f n) ∨ (r = nI 0 ∧ ¬ lr_twNeg f n)) ∧ w = ws) (gw_B D classes (gT cJ cI cZ cS) ws sz) (va_A ws sz)) 0 0 (va_A ws sz) := by
  refine gw_head (by decide) (Nat.le_of_ble_eq_true rfl) (fun p e s m below meth c hsz hx hb hr hlocks hml hown hnm hts hK hN hP hD hS hA ls hl => ?_)
  have hown : s.vm.findClass R_T = some m.cls := hown
  have hT : ∀ w ∈ wG, w ∈ Cond.code y_T_hasTwicesThatContradict b_T_hasTwicesThatContradict 2 (some .boolean) :: wG := gd_t _
  have hF : CallFix p m c b_T_hasTwicesThatContradict 2 s ([.ref h] : List Value).toArray (Cond.code y_T_hasTwicesThatContradict b_T_hasTwicesThatContradict 2 (some .boolean) :: wG) R_T := ⟨hx, hb, hml, hown, hts⟩
  have hl : lv_has ls 2 [(0, .ref h)] := hl
  obtain ⟨hO, hC⟩ := ht
  refine lv_iconst (v := nI 0) hx hb d_T_hasTwicesThatContradict_0 (by decide) ?_
  refine lv_istore_n (lv' := [(1, .int (nI 0)), (0, .ref h)]) hx hb d_T_hasTwicesThatContradict_1 rfl hl (by decide) rfl (fun ls hl => ?_)
  have lp_2 : ∀ (dd i : Nat), i + dd = n → ∀ (H : Heap) (locs : List Loc) (ls : Array Slot), (∀ a, a < i → ¬ lr_plus (f (a * n + a)) (f (lr_op a * n + lr_op a)) < 0) → va_P D classes ws H → va_D (va_A ws sz) ws → va_S (va_A ws sz) s.heap H locs → lv_has ls 2 [(1, .int (nI i)), (0, .ref h)] → W p l e ({ frames := 2, cells := 0, slots := 0, locals := 23 } : Room) s m ([.ref h] : List Value).toArray below meth c H locs 0 0 (MQ below (va_Qi (fun r w => ((r = nI 1 ∧ lr_twNeg f n) ∨ (r = nI 0 ∧ ¬ lr_twNeg f n)) ∧ w = ws) (gw_B D classes (gT cJ cI cZ cS) ws sz) (va_A ws sz)) ([.ref h] : List Value).toArray s 0 0 (va_A ws sz)) (F0 m 2 ls []) := by
    intro dd
    induction dd with
    | zero =>
      intro i e_i H locs ls ha hP hD hS hl
      have e0_i : n = i := by omega
      subst e0_i
      refine lv_iload_n hx hb d_T_hasTwicesThatContradict_2 rfl (lv_at hl 0 rfl) ?_
      refine lv_aload_n hx hb d_T_hasTwicesThatContradict_3 rfl (lv_at hl 1 rfl) ?_
      refine gf_T_9 hF hT hK hP hO rfl d_T_hasTwicesThatContradict_4 ?_
      refine lv_icmp_ge (tgt := 42) hx hb d_T_hasTwicesThatContradict_7 (by decide) (fun c1 => ?_) (fun c1 => ?_)
      · have c1 := (nI_leI (a := n) (b := n) (by omega) (by omega)).mp c1
        refine lv_iconst (v := nI 0) hx hb d_T_hasTwicesThatContradict_42 (by decide) ?_
        exact gw_zret hx hb hr hlocks hK hP hD hS (Nat.le_of_ble_eq_true rfl) (Nat.le_of_ble_eq_true rfl) rfl d_T_hasTwicesThatContradict_43 ⟨Or.inr ⟨rfl, fun ⟨a, h1, h2⟩ => ha a (by omega) h2⟩, rfl⟩
      · have c1 : ¬ (n ≤ n) := fun z => c1 ((nI_leI (a := n) (b := n) (by omega) (by omega)).mpr z)
        exfalso; omega
    | succ dd ih_2 =>
      intro i e_i H locs ls ha hP hD hS hl
      refine lv_iload_n hx hb d_T_hasTwicesThatContradict_2 rfl (lv_at hl 0 rfl) ?_
      refine lv_aload_n hx hb d_T_hasTwicesThatContradict_3 rfl (lv_at hl 1 rfl) ?_
      refine gf_T_9 hF hT hK hP hO rfl d_T_hasTwicesThatContradict_4 ?_
      refine lv_icmp_ge (tgt := 42) hx hb d_T_hasTwicesThatContradict_7 (by decide) (fun c2 => ?_) (fun c2 => ?_)
      · have c2 := (nI_leI (a := n) (b := i) (by omega) (by omega)).mp c2
        exfalso; omega
      · have c2 : ¬ (n ≤ i) := fun z => c2 ((nI_leI (a := n) (b := i) (by omega) (by omega)).mpr z)
        refine lv_aload_n hx hb d_T_hasTwicesThatContradict_10 rfl (lv_at hl 1 rfl) ?_
        refine lv_iload_n hx hb d_T_hasTwicesThatContradict_11 rfl (lv_at hl 0 rfl) ?_
        refine lv_iload_n hx hb d_T_hasTwicesThatContradict_12 rfl (lv_at hl 0 rfl) ?_
        refine gw_cl0 (gc_T_27 (As := [.int (nI i), .int (nI i)]) (rest := []) hF hT (c_T_at ⟨hO, hC⟩ hn (by omega) (by omega)) ⟨(Nat.le_of_ble_eq_true rfl), (Nat.le_of_ble_eq_true rfl)⟩ rfl rfl hK hN hP hD hO rfl hl.1 rfl (Nat.le_of_ble_eq_true rfl) d_T_hasTwicesThatContradict_13 ⟨(Nat.le_of_ble_eq_true rfl), (Nat.le_of_ble_eq_true rfl)⟩) hD hS hA (fun r3 H locs e_r3 hP hD hS => ?_)
        subst e_r3
        refine lv_aload_n hx hb d_T_hasTwicesThatContradict_16 rfl (lv_at hl 1 rfl) ?_
        refine lv_iload_n hx hb d_T_hasTwicesThatContradict_17 rfl (lv_at hl 0 rfl) ?_
        refine lv_iconst (v := nI 1) hx hb d_T_hasTwicesThatContradict_18 (by decide) ?_
        refine lv_ixor hx hb d_T_hasTwicesThatContradict_19 ?_
        refine gx_i (y := nI (lr_op i)) (nx_op (by omega)) ?_
        refine lv_iload_n hx hb d_T_hasTwicesThatContradict_20 rfl (lv_at hl 0 rfl) ?_
        refine lv_iconst (v := nI 1) hx hb d_T_hasTwicesThatContradict_21 (by decide) ?_
        refine lv_ixor hx hb d_T_hasTwicesThatContradict_22 ?_
        refine gx_i (y := nI (lr_op i)) (nx_op (by omega)) ?_
        refine gw_cl0 (gc_T_27 (As := [.int (nI (lr_op i)), .int (nI (lr_op i))]) (rest := [.long (f (i * n + i))]) hF hT (c_T_at ⟨hO, hC⟩ hn (lr_op_lt' he (by omega)) (lr_op_lt' he (by omega))) ⟨(Nat.le_of_ble_eq_true rfl), (Nat.le_of_ble_eq_true rfl)⟩ rfl rfl hK hN hP hD hO rfl hl.1 rfl (Nat.le_of_ble_eq_true rfl) d_T_hasTwicesThatContradict_23 ⟨(Nat.le_of_ble_eq_true rfl), (Nat.le_of_ble_eq_true rfl)⟩) hD hS hA (fun r4 H locs e_r4 hP hD hS => ?_)
        subst e_r4
        refine gw_cl0 (gc_T_88 (As := [.long (f (i * n + i)), .long (f ((lr_op i) * n + (lr_op i)))]) (rest := []) hF hT c_X_plus ⟨(Nat.le_of_ble_eq_true rfl), (Nat.le_of_ble_eq_true rfl)⟩ rfl rfl hK hN hP hD rfl hl.1 rfl (Nat.le_of_ble_eq_true rfl) d_T_hasTwicesThatContradict_26 ⟨(Nat.le_of_ble_eq_true rfl), (Nat.le_of_ble_eq_true rfl)⟩) hD hS hA (fun r5 H locs e_r5 hP hD hS => ?_)
        subst e_r5
        refine lv_lconst (v := 0) hx hb d_T_hasTwicesThatContradict_29 rfl ?_
        refine gx_lge (tgt := 36) hx hb d_T_hasTwicesThatContradict_30 d_T_hasTwicesThatContradict_31 (by decide) (fun c6 => ?_) (fun c6 => ?_)
        · refine lv_iinc (v := nI (i + 1)) (lv' := [(1, .int (nI (i + 1))), (0, .ref h)]) hx hb d_T_hasTwicesThatContradict_36 hl (k := 0) rfl (gx_inc _) (by decide) rfl (fun ls hl => ?_)
          refine lv_goto (tgt := 2) hx hb d_T_hasTwicesThatContradict_39 (by decide) ?_
          exact ih_2 (i + 1) (by omega) _ _ _  (lt_s ha (Int64.not_lt.mpr c6)) hP hD hS (lv_sub hl [0, 1] rfl)
        · refine lv_iconst (v := nI 1) hx hb d_T_hasTwicesThatContradict_34 (by decide) ?_
          exact gw_zret hx hb hr hlocks hK hP hD hS (Nat.le_of_ble_eq_true rfl) (Nat.le_of_ble_eq_true rfl) rfl d_T_hasTwicesThatContradict_35 ⟨Or.inl ⟨rfl, i, by omega, Int64.not_le.mp c6⟩, rfl⟩
  exact lp_2 n 0 (by omega) _ _ _  lt_0 hP hD hS (lv_sub hl [0, 1] rfl)

set_option maxHeartbeats 4000000 in
set_option maxRecDepth 100000 in
theorem c_T_cutToEven {l : Launch} {D : va_G} {cJ cI cZ cS : ClassId} {ws : va_W} {sz : Nat} {j h g n : Nat} {f : Nat → Int64} (ht : tbAt cJ ws j h g n f) (hn : n ≤ 10) : Met l y_T_cutToEven w_T_cutToEven ({ frames := 2, cells := 0, slots := 0, locals := 25 } : Room) (gw_Pc D classes (gT cJ cI cZ cS) [.ref h] ws sz) (va_Qv (fun w => tbAt cJ w j h g n (lr_even f n) ∧ gF (j + 1) (j + 2) ws w) (gw_B D classes (gT cJ cI cZ cS) ws sz) (va_A ws sz)) 0 0 (va_A ws sz) := by
  refine gw_head (by decide) (Nat.le_of_ble_eq_true rfl) (fun p e s m below meth c hsz hx hb hr hlocks hml hown hnm hts hK hN hP hD hS hA ls hl => ?_)
  have hown : s.vm.findClass R_T = some m.cls := hown
  have hT : ∀ w ∈ wG, w ∈ Cond.code y_T_cutToEven b_T_cutToEven 2 none :: wG := gd_t _
  have hF : CallFix p m c b_T_cutToEven 2 s ([.ref h] : List Value).toArray (Cond.code y_T_cutToEven b_T_cutToEven 2 none :: wG) R_T := ⟨hx, hb, hml, hown, hts⟩
  have hl : lv_has ls 2 [(0, .ref h)] := hl
  obtain ⟨hO, hC⟩ := ht
  have hfr : gF (j + 1) (j + 2) ws ws := gF.rf
  refine lv_iconst (v := nI 0) hx hb d_T_cutToEven_0 (by decide) ?_
  refine lv_istore_n (lv' := [(1, .int (nI 0)), (0, .ref h)]) hx hb d_T_cutToEven_1 rfl hl (by decide) rfl (fun ls hl => ?_)
  have lp_2 : ∀ (dd i : Nat), i + dd = n → ∀ (w : va_W) (H : Heap) (locs : List Loc) (ls : Array Slot), w[j]? = some (h, .inr (0, [.int (nI n), .ref g])) → w[j + 1]? = some (g, .inl (cJ, n * n, .inr (.inl (lr_it (fun i f => lr_evenB n i f) i f)))) → gF (j + 1) (j + 2) ws w → va_P D classes w H → va_D (va_A ws sz) w → va_S (va_A ws sz) s.heap H locs → lv_has ls 2 [(1, .int (nI i)), (0, .ref h)] → W p l e ({ frames := 2, cells := 0, slots := 0, locals := 25 } : Room) s m ([.ref h] : List Value).toArray below meth c H locs 0 0 (MQ below (va_Qv (fun w => tbAt cJ w j h g n (lr_even f n) ∧ gF (j + 1) (j + 2) ws w) (gw_B D classes (gT cJ cI cZ cS) ws sz) (va_A ws sz)) ([.ref h] : List Value).toArray s 0 0 (va_A ws sz)) (F0 m 2 ls []) := by
    intro dd
    induction dd with
    | zero =>
      intro i e_i w H locs ls hO hC hfr hP hD hS hl
      have e0_i : n = i := by omega
      subst e0_i
      refine lv_iload_n hx hb d_T_cutToEven_2 rfl (lv_at hl 0 rfl) ?_
      refine lv_aload_n hx hb d_T_cutToEven_3 rfl (lv_at hl 1 rfl) ?_
      refine gf_T_9 hF hT hK hP hO rfl d_T_cutToEven_4 ?_
      refine lv_icmp_ge (tgt := 51) hx hb d_T_cutToEven_7 (by decide) (fun c1 => ?_) (fun c1 => ?_)
      · have c1 := (nI_leI (a := n) (b := n) (by omega) (by omega)).mp c1
        exact gw_vret hx hb hr hlocks hK hP hD hS (Nat.le_of_ble_eq_true rfl) (Nat.le_of_ble_eq_true rfl) d_T_cutToEven_51 ⟨⟨hO, hC⟩, hfr⟩
      · have c1 : ¬ (n ≤ n) := fun z => c1 ((nI_leI (a := n) (b := n) (by omega) (by omega)).mpr z)
        exfalso; omega
    | succ dd ih_2 =>
      intro i e_i w H locs ls hO hC hfr hP hD hS hl
      refine lv_iload_n hx hb d_T_cutToEven_2 rfl (lv_at hl 0 rfl) ?_
      refine lv_aload_n hx hb d_T_cutToEven_3 rfl (lv_at hl 1 rfl) ?_
      refine gf_T_9 hF hT hK hP hO rfl d_T_cutToEven_4 ?_
      refine lv_icmp_ge (tgt := 51) hx hb d_T_cutToEven_7 (by decide) (fun c2 => ?_) (fun c2 => ?_)
      · have c2 := (nI_leI (a := n) (b := i) (by omega) (by omega)).mp c2
        exfalso; omega
      · have c2 : ¬ (n ≤ i) := fun z => c2 ((nI_leI (a := n) (b := i) (by omega) (by omega)).mpr z)
        refine lv_aload_n hx hb d_T_cutToEven_10 rfl (lv_at hl 1 rfl) ?_
        refine lv_iload_n hx hb d_T_cutToEven_11 rfl (lv_at hl 0 rfl) ?_
        refine lv_iload_n hx hb d_T_cutToEven_12 rfl (lv_at hl 0 rfl) ?_
        refine gw_cl0 (gc_T_27 (As := [.int (nI i), .int (nI i)]) (rest := []) hF hT (c_T_at ⟨hO, hC⟩ hn (by omega) (by omega)) ⟨(Nat.le_of_ble_eq_true rfl), (Nat.le_of_ble_eq_true rfl)⟩ rfl rfl hK hN hP hD hO rfl hl.1 rfl (Nat.le_of_ble_eq_true rfl) d_T_cutToEven_13 ⟨(Nat.le_of_ble_eq_true rfl), (Nat.le_of_ble_eq_true rfl)⟩) hD hS hA (fun r3 H locs e_r3 hP hD hS => ?_)
        subst e_r3
        refine lv_ldc2 (v := lr_E) hx hb hown (hts _ (hT _ wm_1_41)) d_T_cutToEven_16 ?_
        refine gx_leq (tgt := 45) hx hb d_T_cutToEven_19 d_T_cutToEven_20 (by decide) (fun c4 => ?_) (fun c4 => ?_)
        · refine lv_iinc (v := nI (i + 1)) (lv' := [(1, .int (nI (i + 1))), (0, .ref h)]) hx hb d_T_cutToEven_45 hl (k := 0) rfl (gx_inc _) (by decide) rfl (fun ls hl => ?_)
          refine lv_goto (tgt := 2) hx hb d_T_cutToEven_48 (by decide) ?_
          have eB5 : lr_it (fun i f => lr_evenB n i f) (i + 1) f = lr_it (fun i f => lr_evenB n i f) i f := by show lr_evenB n i _ = _; exact if_pos c4
          rw [← eB5] at hC
          exact ih_2 (i + 1) (by omega) _ _ _ _ hO hC hfr hP hD hS (lv_sub hl [0, 1] rfl)
        · refine lv_aload_n hx hb d_T_cutToEven_23 rfl (lv_at hl 1 rfl) ?_
          refine lv_iload_n hx hb d_T_cutToEven_24 rfl (lv_at hl 0 rfl) ?_
          refine lv_iload_n hx hb d_T_cutToEven_25 rfl (lv_at hl 0 rfl) ?_
          refine lv_ldc2 (v := (2 : Int64)) hx hb hown (hts _ (hT _ wm_2_52)) d_T_cutToEven_26 ?_
          refine lv_aload_n hx hb d_T_cutToEven_29 rfl (lv_at hl 1 rfl) ?_
          refine lv_iload_n hx hb d_T_cutToEven_30 rfl (lv_at hl 0 rfl) ?_
          refine lv_iload_n hx hb d_T_cutToEven_31 rfl (lv_at hl 0 rfl) ?_
          refine gw_cl0 (gc_T_27 (As := [.int (nI i), .int (nI i)]) (rest := [.long (2 : Int64), .int (nI i), .int (nI i), .ref h]) hF hT (c_T_at ⟨hO, hC⟩ hn (by omega) (by omega)) ⟨(Nat.le_of_ble_eq_true rfl), (Nat.le_of_ble_eq_true rfl)⟩ rfl rfl hK hN hP hD hO rfl hl.1 rfl (Nat.le_of_ble_eq_true rfl) d_T_cutToEven_32 ⟨(Nat.le_of_ble_eq_true rfl), (Nat.le_of_ble_eq_true rfl)⟩) hD hS hA (fun r6 H locs e_r6 hP hD hS => ?_)
          subst e_r6
          refine lv_ldc2 (v := (2 : Int64)) hx hb hown (hts _ (hT _ wm_2_52)) d_T_cutToEven_35 ?_
          refine gw_cl0 (gc_T_85 (As := [.long ((lr_it (fun i f => lr_evenB n i f) i f) (i * n + i)), .long (2 : Int64)]) (rest := [.long (2 : Int64), .int (nI i), .int (nI i), .ref h]) hF hT (c_JM_floorDiv (by decide)) ⟨(Nat.le_of_ble_eq_true rfl), (Nat.le_of_ble_eq_true rfl)⟩ rfl rfl hK hN hP hD rfl hl.1 rfl (Nat.le_of_ble_eq_true rfl) d_T_cutToEven_38 ⟨(Nat.le_of_ble_eq_true rfl), (Nat.le_of_ble_eq_true rfl)⟩) hD hS hA (fun r7 H locs e_r7 hP hD hS => ?_)
          subst e_r7
          refine lv_lmul hx hb d_T_cutToEven_41 ?_
          refine gw_cv (gc_T_47 (As := [.int (nI i), .int (nI i), .long ((2 : Int64) * (lr_fd ((lr_it (fun i f => lr_evenB n i f) i f) (i * n + i)) (2 : Int64)))]) (rest := []) hF hT (c_T_store ⟨hO, hC⟩ hn (by omega) (by omega)) ⟨(Nat.le_of_ble_eq_true rfl), (Nat.le_of_ble_eq_true rfl)⟩ rfl rfl hK hN hP hD hO rfl hl.1 rfl (Nat.le_of_ble_eq_true rfl) d_T_cutToEven_42 ⟨(Nat.le_of_ble_eq_true rfl), (Nat.le_of_ble_eq_true rfl)⟩) hD hS hA (fun w H locs hw hP hD hS => ?_)
          obtain ⟨⟨hO, hC⟩, hf⟩ := hw
          have hfr := hfr.in hf (by omega) (by omega)
          refine lv_iinc (v := nI (i + 1)) (lv' := [(1, .int (nI (i + 1))), (0, .ref h)]) hx hb d_T_cutToEven_45 hl (k := 0) rfl (gx_inc _) (by decide) rfl (fun ls hl => ?_)
          refine lv_goto (tgt := 2) hx hb d_T_cutToEven_48 (by decide) ?_
          have eB8 : lr_it (fun i f => lr_evenB n i f) (i + 1) f = lr_store (lr_it (fun i f => lr_evenB n i f) i f) n i i ((2 : Int64) * (lr_fd ((lr_it (fun i f => lr_evenB n i f) i f) (i * n + i)) (2 : Int64))) := by show lr_evenB n i _ = _; exact if_neg c4
          rw [← eB8] at hC
          exact ih_2 (i + 1) (by omega) _ _ _ _ hO hC hfr hP hD hS (lv_sub hl [0, 1] rfl)
  exact lp_2 n 0 (by omega) _ _ _ _ hO hC hfr hP hD hS (lv_sub hl [0, 1] rfl)

set_option maxHeartbeats 4000000 in
set_option maxRecDepth 100000 in
theorem c_T_addHalves {l : Launch} {D : va_G} {cJ cI cZ cS : ClassId} {ws : va_W} {sz : Nat} {j h g n : Nat} {f : Nat → Int64} (ht : tbAt cJ ws j h g n f) (hn : n ≤ 10) : Met l y_T_addHalves w_T_addHalves ({ frames := 3, cells := 0, slots := 0, locals := 48 } : Room) (gw_Pc D classes (gT cJ cI cZ cS) [.ref h] ws sz) (va_Qv (fun w => tbAt cJ w j h g n (lr_halves f n) ∧ gF (j + 1) (j + 2) ws w) (gw_B D classes (gT cJ cI cZ cS) ws sz) (va_A ws sz)) 0 0 (va_A ws sz) := by
  refine gw_head (by decide) (Nat.le_of_ble_eq_true rfl) (fun p e s m below meth c hsz hx hb hr hlocks hml hown hnm hts hK hN hP hD hS hA ls hl => ?_)
  have hown : s.vm.findClass R_T = some m.cls := hown
  have hT : ∀ w ∈ wG, w ∈ Cond.code y_T_addHalves b_T_addHalves 3 none :: wG := gd_t _
  have hF : CallFix p m c b_T_addHalves 3 s ([.ref h] : List Value).toArray (Cond.code y_T_addHalves b_T_addHalves 3 none :: wG) R_T := ⟨hx, hb, hml, hown, hts⟩
  have hl : lv_has ls 3 [(0, .ref h)] := hl
  obtain ⟨hO, hC⟩ := ht
  have hfr : gF (j + 1) (j + 2) ws ws := gF.rf
  refine lv_iconst (v := nI 0) hx hb d_T_addHalves_0 (by decide) ?_
  refine lv_istore_n (lv' := [(1, .int (nI 0)), (0, .ref h)]) hx hb d_T_addHalves_1 rfl hl (by decide) rfl (fun ls hl => ?_)
  have lp_2 : ∀ (dd i : Nat), i + dd = n → ∀ (w : va_W) (H : Heap) (locs : List Loc) (ls : Array Slot), w[j]? = some (h, .inr (0, [.int (nI n), .ref g])) → w[j + 1]? = some (g, .inl (cJ, n * n, .inr (.inl (lr_it (fun i f => lr_it (fun t f => lr_lower f n i (i + 1 + t) (lr_plus (lr_half f n i) (lr_half f n (i + 1 + t)))) (n - (i + 1)) f) i f)))) → gF (j + 1) (j + 2) ws w → va_P D classes w H → va_D (va_A ws sz) w → va_S (va_A ws sz) s.heap H locs → lv_has ls 3 [(1, .int (nI i)), (0, .ref h)] → W p l e ({ frames := 3, cells := 0, slots := 0, locals := 48 } : Room) s m ([.ref h] : List Value).toArray below meth c H locs 0 0 (MQ below (va_Qv (fun w => tbAt cJ w j h g n (lr_halves f n) ∧ gF (j + 1) (j + 2) ws w) (gw_B D classes (gT cJ cI cZ cS) ws sz) (va_A ws sz)) ([.ref h] : List Value).toArray s 0 0 (va_A ws sz)) (F0 m 2 ls []) := by
    intro dd
    induction dd with
    | zero =>
      intro i e_i w H locs ls hO hC hfr hP hD hS hl
      have e0_i : n = i := by omega
      subst e0_i
      refine lv_iload_n hx hb d_T_addHalves_2 rfl (lv_at hl 0 rfl) ?_
      refine lv_aload_n hx hb d_T_addHalves_3 rfl (lv_at hl 1 rfl) ?_
      refine gf_T_9 hF hT hK hP hO rfl d_T_addHalves_4 ?_
      refine lv_icmp_ge (tgt := 53) hx hb d_T_addHalves_7 (by decide) (fun c1 => ?_) (fun c1 => ?_)
      · have c1 := (nI_leI (a := n) (b := n) (by omega) (by omega)).mp c1
        exact gw_vret hx hb hr hlocks hK hP hD hS (Nat.le_of_ble_eq_true rfl) (Nat.le_of_ble_eq_true rfl) d_T_addHalves_53 ⟨⟨hO, hC⟩, hfr⟩
      · have c1 : ¬ (n ≤ n) := fun z => c1 ((nI_leI (a := n) (b := n) (by omega) (by omega)).mpr z)
        exfalso; omega
    | succ dd ih_2 =>
      intro i e_i w H locs ls hO hC hfr hP hD hS hl
      refine lv_iload_n hx hb d_T_addHalves_2 rfl (lv_at hl 0 rfl) ?_
      refine lv_aload_n hx hb d_T_addHalves_3 rfl (lv_at hl 1 rfl) ?_
      refine gf_T_9 hF hT hK hP hO rfl d_T_addHalves_4 ?_
      refine lv_icmp_ge (tgt := 53) hx hb d_T_addHalves_7 (by decide) (fun c2 => ?_) (fun c2 => ?_)
      · have c2 := (nI_leI (a := n) (b := i) (by omega) (by omega)).mp c2
        exfalso; omega
      · have c2 : ¬ (n ≤ i) := fun z => c2 ((nI_leI (a := n) (b := i) (by omega) (by omega)).mpr z)
        refine lv_iload_n hx hb d_T_addHalves_10 rfl (lv_at hl 0 rfl) ?_
        refine lv_iconst (v := nI 1) hx hb d_T_addHalves_11 (by decide) ?_
        refine lv_iadd hx hb d_T_addHalves_12 ?_
        refine gx_i (y := nI (i + 1)) (nI_add _ _) ?_
        refine lv_istore_n (lv' := [(2, .int (nI (i + 1))), (1, .int (nI i)), (0, .ref h)]) hx hb d_T_addHalves_13 rfl hl (by decide) rfl (fun ls hl => ?_)
        have lp_14 : ∀ (dd t : Nat), t + dd = (n - (i + 1)) → ∀ (w : va_W) (H : Heap) (locs : List Loc) (ls : Array Slot), w[j]? = some (h, .inr (0, [.int (nI n), .ref g])) → w[j + 1]? = some (g, .inl (cJ, n * n, .inr (.inl (lr_it (fun t f => lr_lower f n i (i + 1 + t) (lr_plus (lr_half f n i) (lr_half f n (i + 1 + t)))) t (lr_it (fun i f => lr_it (fun t f => lr_lower f n i (i + 1 + t) (lr_plus (lr_half f n i) (lr_half f n (i + 1 + t)))) (n - (i + 1)) f) i f))))) → gF (j + 1) (j + 2) ws w → va_P D classes w H → va_D (va_A ws sz) w → va_S (va_A ws sz) s.heap H locs → lv_has ls 3 [(2, .int (nI (i + 1 + t))), (1, .int (nI i)), (0, .ref h)] → W p l e ({ frames := 3, cells := 0, slots := 0, locals := 48 } : Room) s m ([.ref h] : List Value).toArray below meth c H locs 0 0 (MQ below (va_Qv (fun w => tbAt cJ w j h g n (lr_halves f n) ∧ gF (j + 1) (j + 2) ws w) (gw_B D classes (gT cJ cI cZ cS) ws sz) (va_A ws sz)) ([.ref h] : List Value).toArray s 0 0 (va_A ws sz)) (F0 m 14 ls []) := by
          intro dd
          induction dd with
          | zero =>
            intro t e_t w H locs ls hO hC hfr hP hD hS hl
            have e0_t : (n - (i + 1)) = t := by omega
            subst e0_t
            refine lv_iload_n hx hb d_T_addHalves_14 rfl (lv_at hl 0 rfl) ?_
            refine lv_aload_n hx hb d_T_addHalves_15 rfl (lv_at hl 2 rfl) ?_
            refine gf_T_9 hF hT hK hP hO rfl d_T_addHalves_16 ?_
            refine lv_icmp_ge (tgt := 47) hx hb d_T_addHalves_19 (by decide) (fun c3 => ?_) (fun c3 => ?_)
            · have c3 := (nI_leI (a := n) (b := (i + 1 + (n - (i + 1)))) (by omega) (by omega)).mp c3
              refine lv_iinc (v := nI (i + 1)) (lv' := [(1, .int (nI (i + 1))), (2, .int (nI (i + 1 + (n - (i + 1))))), (0, .ref h)]) hx hb d_T_addHalves_47 hl (k := 1) rfl (gx_inc _) (by decide) rfl (fun ls hl => ?_)
              refine lv_goto (tgt := 2) hx hb d_T_addHalves_50 (by decide) ?_
              exact ih_2 (i + 1) (by omega) _ _ _ _ hO hC hfr hP hD hS (lv_sub hl [0, 2] rfl)
            · have c3 : ¬ (n ≤ i + 1 + (n - (i + 1))) := fun z => c3 ((nI_leI (a := n) (b := (i + 1 + (n - (i + 1)))) (by omega) (by omega)).mpr z)
              exfalso; omega
          | succ dd ih_14 =>
            intro t e_t w H locs ls hO hC hfr hP hD hS hl
            refine lv_iload_n hx hb d_T_addHalves_14 rfl (lv_at hl 0 rfl) ?_
            refine lv_aload_n hx hb d_T_addHalves_15 rfl (lv_at hl 2 rfl) ?_
            refine gf_T_9 hF hT hK hP hO rfl d_T_addHalves_16 ?_
            refine lv_icmp_ge (tgt := 47) hx hb d_T_addHalves_19 (by decide) (fun c4 => ?_) (fun c4 => ?_)
            · have c4 := (nI_leI (a := n) (b := (i + 1 + t)) (by omega) (by omega)).mp c4
              exfalso; omega
            · have c4 : ¬ (n ≤ i + 1 + t) := fun z => c4 ((nI_leI (a := n) (b := (i + 1 + t)) (by omega) (by omega)).mpr z)
              refine lv_aload_n hx hb d_T_addHalves_22 rfl (lv_at hl 2 rfl) ?_
              refine lv_iload_n hx hb d_T_addHalves_23 rfl (lv_at hl 1 rfl) ?_
              refine lv_iload_n hx hb d_T_addHalves_24 rfl (lv_at hl 0 rfl) ?_
              refine lv_aload_n hx hb d_T_addHalves_25 rfl (lv_at hl 2 rfl) ?_
              refine lv_iload_n hx hb d_T_addHalves_26 rfl (lv_at hl 1 rfl) ?_
              refine gw_cl0 (gc_T_37 (As := [.int (nI i)]) (rest := [.int (nI (i + 1 + t)), .int (nI i), .ref h]) hF hT (c_T_half ⟨hO, hC⟩ hn (by omega)) ⟨(Nat.le_of_ble_eq_true rfl), (Nat.le_of_ble_eq_true rfl)⟩ rfl rfl hK hN hP hD hO rfl hl.1 rfl (Nat.le_of_ble_eq_true rfl) d_T_addHalves_27 ⟨(Nat.le_of_ble_eq_true rfl), (Nat.le_of_ble_eq_true rfl)⟩) hD hS hA (fun r5 H locs e_r5 hP hD hS => ?_)
              subst e_r5
              refine lv_aload_n hx hb d_T_addHalves_30 rfl (lv_at hl 2 rfl) ?_
              refine lv_iload_n hx hb d_T_addHalves_31 rfl (lv_at hl 0 rfl) ?_
              refine gw_cl0 (gc_T_37 (As := [.int (nI (i + 1 + t))]) (rest := [.long (lr_half (lr_it (fun t f => lr_lower f n i (i + 1 + t) (lr_plus (lr_half f n i) (lr_half f n (i + 1 + t)))) t (lr_it (fun i f => lr_it (fun t f => lr_lower f n i (i + 1 + t) (lr_plus (lr_half f n i) (lr_half f n (i + 1 + t)))) (n - (i + 1)) f) i f)) n i), .int (nI (i + 1 + t)), .int (nI i), .ref h]) hF hT (c_T_half ⟨hO, hC⟩ hn (by omega)) ⟨(Nat.le_of_ble_eq_true rfl), (Nat.le_of_ble_eq_true rfl)⟩ rfl rfl hK hN hP hD hO rfl hl.1 rfl (Nat.le_of_ble_eq_true rfl) d_T_addHalves_32 ⟨(Nat.le_of_ble_eq_true rfl), (Nat.le_of_ble_eq_true rfl)⟩) hD hS hA (fun r6 H locs e_r6 hP hD hS => ?_)
              subst e_r6
              refine gw_cl0 (gc_T_88 (As := [.long (lr_half (lr_it (fun t f => lr_lower f n i (i + 1 + t) (lr_plus (lr_half f n i) (lr_half f n (i + 1 + t)))) t (lr_it (fun i f => lr_it (fun t f => lr_lower f n i (i + 1 + t) (lr_plus (lr_half f n i) (lr_half f n (i + 1 + t)))) (n - (i + 1)) f) i f)) n i), .long (lr_half (lr_it (fun t f => lr_lower f n i (i + 1 + t) (lr_plus (lr_half f n i) (lr_half f n (i + 1 + t)))) t (lr_it (fun i f => lr_it (fun t f => lr_lower f n i (i + 1 + t) (lr_plus (lr_half f n i) (lr_half f n (i + 1 + t)))) (n - (i + 1)) f) i f)) n (i + 1 + t))]) (rest := [.int (nI (i + 1 + t)), .int (nI i), .ref h]) hF hT c_X_plus ⟨(Nat.le_of_ble_eq_true rfl), (Nat.le_of_ble_eq_true rfl)⟩ rfl rfl hK hN hP hD rfl hl.1 rfl (Nat.le_of_ble_eq_true rfl) d_T_addHalves_35 ⟨(Nat.le_of_ble_eq_true rfl), (Nat.le_of_ble_eq_true rfl)⟩) hD hS hA (fun r7 H locs e_r7 hP hD hS => ?_)
              subst e_r7
              refine gw_cv (gc_T_91 (As := [.int (nI i), .int (nI (i + 1 + t)), .long (lr_plus (lr_half (lr_it (fun t f => lr_lower f n i (i + 1 + t) (lr_plus (lr_half f n i) (lr_half f n (i + 1 + t)))) t (lr_it (fun i f => lr_it (fun t f => lr_lower f n i (i + 1 + t) (lr_plus (lr_half f n i) (lr_half f n (i + 1 + t)))) (n - (i + 1)) f) i f)) n i) (lr_half (lr_it (fun t f => lr_lower f n i (i + 1 + t) (lr_plus (lr_half f n i) (lr_half f n (i + 1 + t)))) t (lr_it (fun i f => lr_it (fun t f => lr_lower f n i (i + 1 + t) (lr_plus (lr_half f n i) (lr_half f n (i + 1 + t)))) (n - (i + 1)) f) i f)) n (i + 1 + t)))]) (rest := []) hF hT (c_T_lowerTo ⟨hO, hC⟩ hn (by omega) (by omega)) ⟨(Nat.le_of_ble_eq_true rfl), (Nat.le_of_ble_eq_true rfl)⟩ rfl rfl hK hN hP hD hO rfl hl.1 rfl (Nat.le_of_ble_eq_true rfl) d_T_addHalves_38 ⟨(Nat.le_of_ble_eq_true rfl), (Nat.le_of_ble_eq_true rfl)⟩) hD hS hA (fun w H locs hw hP hD hS => ?_)
              obtain ⟨⟨hO, hC⟩, hf⟩ := hw
              have hfr := hfr.in hf (by omega) (by omega)
              refine lv_iinc (v := nI (i + 1 + t + 1)) (lv' := [(2, .int (nI (i + 1 + t + 1))), (1, .int (nI i)), (0, .ref h)]) hx hb d_T_addHalves_41 hl (k := 0) rfl (gx_inc _) (by decide) rfl (fun ls hl => ?_)
              refine lv_goto (tgt := 14) hx hb d_T_addHalves_44 (by decide) ?_
              exact ih_14 (t + 1) (by omega) _ _ _ _ hO hC hfr hP hD hS (lv_sub hl [0, 1, 2] rfl)
        exact lp_14 (n - (i + 1)) 0 (by omega) _ _ _ _ hO hC hfr hP hD hS (lv_sub hl [0, 1, 2] rfl)
  exact lp_2 n 0 (by omega) _ _ _ _ hO hC hfr hP hD hS (lv_sub hl [0, 1] rfl)

set_option maxHeartbeats 4000000 in
set_option maxRecDepth 100000 in
theorem c_T_chainThrough {l : Launch} {D : va_G} {cJ cI cZ cS : ClassId} {ws : va_W} {sz : Nat} {j h g n : Nat} {f : Nat → Int64} (ht : tbAt cJ ws j h g n f) (hn : n ≤ 10) {k : Nat} (hk : k < n) (he : n % 2 = 0) : Met l y_T_chainThrough w_T_chainThrough ({ frames := 1, cells := 0, slots := 0, locals := 0 } : Room) (gw_Pc D classes (gT cJ cI cZ cS) [.ref h, .int (nI k)] ws sz) (va_Qv (fun w => tbAt cJ w j h g n (lr_chain f n k) ∧ gF (j + 1) (j + 2) ws w) (gw_B D classes (gT cJ cI cZ cS) ws sz) (va_A ws sz)) 0 0 (va_A ws sz) := by
  refine gw_head (by decide) (Nat.le_of_ble_eq_true rfl) (fun p e s m below meth c hsz hx hb hr hlocks hml hown hnm hts hK hN hP hD hS hA ls hl => ?_)
  have hown : s.vm.findClass R_T = some m.cls := hown
  have hT : ∀ w ∈ wG, w ∈ Cond.code y_T_chainThrough b_T_chainThrough 10 none :: wG := gd_t _
  have hF : CallFix p m c b_T_chainThrough 10 s ([.ref h, .int (nI k)] : List Value).toArray (Cond.code y_T_chainThrough b_T_chainThrough 10 none :: wG) R_T := ⟨hx, hb, hml, hown, hts⟩
  have hl : lv_has ls 10 [(0, .ref h), (1, .int (nI k))] := hl
  obtain ⟨hO, hC⟩ := ht
  have hok := lr_op_lt' he hk
  have hfr : gF (j + 1) (j + 2) ws ws := gF.rf
  refine lv_iload_n hx hb d_T_chainThrough_0 rfl (lv_at hl 1 rfl) ?_
  refine lv_iconst (v := nI 1) hx hb d_T_chainThrough_1 (by decide) ?_
  refine lv_ixor hx hb d_T_chainThrough_2 ?_
  refine gx_i (y := nI (lr_op k)) (nx_op (by omega)) ?_
  refine lv_aload_n hx hb d_T_chainThrough_3 rfl (lv_at hl 0 rfl) ?_
  refine gf_T_9 hF hT hK hP hO rfl d_T_chainThrough_4 ?_
  refine lv_imul hx hb d_T_chainThrough_7 ?_
  refine gx_i (y := nI ((lr_op k) * n)) (pk_mul _ _) ?_
  refine lv_istore_n (lv' := [(2, .int (nI ((lr_op k) * n))), (0, .ref h), (1, .int (nI k))]) hx hb d_T_chainThrough_8 rfl hl (by decide) rfl (fun ls hl => ?_)
  refine lv_iconst (v := nI 0) hx hb d_T_chainThrough_9 (by decide) ?_
  refine lv_istore_n (lv' := [(3, .int (nI 0)), (2, .int (nI ((lr_op k) * n))), (0, .ref h), (1, .int (nI k))]) hx hb d_T_chainThrough_10 rfl hl (by decide) rfl (fun ls hl => ?_)
  have lp_11 : ∀ (dd i : Nat), i + dd = n → ∀ (w : va_W) (H : Heap) (locs : List Loc) (ls : Array Slot), w[j]? = some (h, .inr (0, [.int (nI n), .ref g])) → w[j + 1]? = some (g, .inl (cJ, n * n, .inr (.inl (lr_it (fun i f => lr_chI n k i f) i f)))) → gF (j + 1) (j + 2) ws w → va_P D classes w H → va_D (va_A ws sz) w → va_S (va_A ws sz) s.heap H locs → lv_has ls 10 [(3, .int (nI i)), (2, .int (nI ((lr_op k) * n))), (0, .ref h), (1, .int (nI k))] → W p l e ({ frames := 1, cells := 0, slots := 0, locals := 0 } : Room) s m ([.ref h, .int (nI k)] : List Value).toArray below meth c H locs 0 0 (MQ below (va_Qv (fun w => tbAt cJ w j h g n (lr_chain f n k) ∧ gF (j + 1) (j + 2) ws w) (gw_B D classes (gT cJ cI cZ cS) ws sz) (va_A ws sz)) ([.ref h, .int (nI k)] : List Value).toArray s 0 0 (va_A ws sz)) (F0 m 11 ls []) := by
    intro dd
    induction dd with
    | zero =>
      intro i e_i w H locs ls hO hC hfr hP hD hS hl
      have e0_i : n = i := by omega
      subst e0_i
      refine lv_iload_n hx hb d_T_chainThrough_11 rfl (lv_at hl 0 rfl) ?_
      refine lv_aload_n hx hb d_T_chainThrough_12 rfl (lv_at hl 2 rfl) ?_
      refine gf_T_9 hF hT hK hP hO rfl d_T_chainThrough_13 ?_
      refine lv_icmp_ge (tgt := 128) hx hb d_T_chainThrough_16 (by decide) (fun c1 => ?_) (fun c1 => ?_)
      · have c1 := (nI_leI (a := n) (b := n) (by omega) (by omega)).mp c1
        exact gw_vret hx hb hr hlocks hK hP hD hS (Nat.le_of_ble_eq_true rfl) (Nat.le_of_ble_eq_true rfl) d_T_chainThrough_128 ⟨⟨hO, hC⟩, hfr⟩
      · have c1 : ¬ (n ≤ n) := fun z => c1 ((nI_leI (a := n) (b := n) (by omega) (by omega)).mpr z)
        exfalso; omega
    | succ dd ih_11 =>
      intro i e_i w H locs ls hO hC hfr hP hD hS hl
      refine lv_iload_n hx hb d_T_chainThrough_11 rfl (lv_at hl 0 rfl) ?_
      refine lv_aload_n hx hb d_T_chainThrough_12 rfl (lv_at hl 2 rfl) ?_
      refine gf_T_9 hF hT hK hP hO rfl d_T_chainThrough_13 ?_
      refine lv_icmp_ge (tgt := 128) hx hb d_T_chainThrough_16 (by decide) (fun c2 => ?_) (fun c2 => ?_)
      · have c2 := (nI_leI (a := n) (b := i) (by omega) (by omega)).mp c2
        exfalso; omega
      · have c2 : ¬ (n ≤ i) := fun z => c2 ((nI_leI (a := n) (b := i) (by omega) (by omega)).mpr z)
        refine lv_iload_n hx hb d_T_chainThrough_19 rfl (lv_at hl 0 rfl) ?_
        refine lv_aload_n hx hb d_T_chainThrough_20 rfl (lv_at hl 2 rfl) ?_
        refine gf_T_9 hF hT hK hP hO rfl d_T_chainThrough_21 ?_
        refine lv_imul hx hb d_T_chainThrough_24 ?_
        refine gx_i (y := nI (i * n)) (pk_mul _ _) ?_
        refine lv_istore (lv' := [(4, .int (nI (i * n))), (3, .int (nI i)), (2, .int (nI ((lr_op k) * n))), (0, .ref h), (1, .int (nI k))]) hx hb d_T_chainThrough_25 hl (by decide) rfl (fun ls hl => ?_)
        refine lv_aload_n hx hb d_T_chainThrough_27 rfl (lv_at hl 3 rfl) ?_
        refine gf_T_15 hF hT hK hP hO rfl d_T_chainThrough_28 ?_
        refine lv_iload hx hb d_T_chainThrough_31 (lv_at hl 0 rfl) ?_
        refine lv_iload_n hx hb d_T_chainThrough_33 rfl (lv_at hl 4 rfl) ?_
        refine lv_iadd hx hb d_T_chainThrough_34 ?_
        refine gx_i (y := nI ((i * n) + k)) (nI_add _ _) ?_
        refine g_lald (t0 := 0) (k := (i * n) + k) hx hb hK hP hC rfl (lr_ix (by omega) (by omega)) (lr_sq hn) d_T_chainThrough_35 ?_
        refine lv_lstore (lv' := [(5, .long ((lr_it (fun i f => lr_chI n k i f) i f) ((i * n) + k))), (4, .int (nI (i * n))), (3, .int (nI i)), (2, .int (nI ((lr_op k) * n))), (0, .ref h), (1, .int (nI k))]) hx hb d_T_chainThrough_36 hl (by decide) rfl (fun ls hl => ?_)
        refine lv_lload hx hb d_T_chainThrough_38 (lv_at hl 0 rfl) ?_
        refine lv_ldc2 (v := lr_E) hx hb hown (hts _ (hT _ wm_1_41)) d_T_chainThrough_40 ?_
        refine gx_lne (tgt := 50) hx hb d_T_chainThrough_43 d_T_chainThrough_44 (by decide) (fun c3 => ?_) (fun c3 => ?_)
        · refine lv_iconst (v := nI 0) hx hb d_T_chainThrough_50 (by decide) ?_
          refine lv_istore (lv' := [(7, .int (nI 0)), (5, .long ((lr_it (fun i f => lr_chI n k i f) i f) ((i * n) + k))), (4, .int (nI (i * n))), (3, .int (nI i)), (2, .int (nI ((lr_op k) * n))), (0, .ref h), (1, .int (nI k))]) hx hb d_T_chainThrough_51 hl (by decide) rfl (fun ls hl => ?_)
          have lp_53 : ∀ (dd jj : Nat), jj + dd = n → ∀ (w : va_W) (H : Heap) (locs : List Loc) (ls : Array Slot), w[j]? = some (h, .inr (0, [.int (nI n), .ref g])) → w[j + 1]? = some (g, .inl (cJ, n * n, .inr (.inl (lr_it (fun j g => lr_chJ n k i j g ((lr_it (fun i f => lr_chI n k i f) i f) (i * n + k))) jj (lr_it (fun i f => lr_chI n k i f) i f))))) → gF (j + 1) (j + 2) ws w → va_P D classes w H → va_D (va_A ws sz) w → va_S (va_A ws sz) s.heap H locs → lv_has ls 10 [(7, .int (nI jj)), (5, .long ((lr_it (fun i f => lr_chI n k i f) i f) ((i * n) + k))), (4, .int (nI (i * n))), (3, .int (nI i)), (2, .int (nI ((lr_op k) * n))), (0, .ref h), (1, .int (nI k))] → W p l e ({ frames := 1, cells := 0, slots := 0, locals := 0 } : Room) s m ([.ref h, .int (nI k)] : List Value).toArray below meth c H locs 0 0 (MQ below (va_Qv (fun w => tbAt cJ w j h g n (lr_chain f n k) ∧ gF (j + 1) (j + 2) ws w) (gw_B D classes (gT cJ cI cZ cS) ws sz) (va_A ws sz)) ([.ref h, .int (nI k)] : List Value).toArray s 0 0 (va_A ws sz)) (F0 m 53 ls []) := by
            intro dd
            induction dd with
            | zero =>
              intro jj e_jj w H locs ls hO hC hfr hP hD hS hl
              have e0_jj : n = jj := by omega
              subst e0_jj
              refine lv_iload hx hb d_T_chainThrough_53 (lv_at hl 0 rfl) ?_
              refine lv_aload_n hx hb d_T_chainThrough_55 rfl (lv_at hl 5 rfl) ?_
              refine gf_T_9 hF hT hK hP hO rfl d_T_chainThrough_56 ?_
              refine lv_icmp_ge (tgt := 122) hx hb d_T_chainThrough_59 (by decide) (fun c4 => ?_) (fun c4 => ?_)
              · have c4 := (nI_leI (a := n) (b := n) (by omega) (by omega)).mp c4
                refine lv_iinc (v := nI (i + 1)) (lv' := [(3, .int (nI (i + 1))), (7, .int (nI n)), (5, .long ((lr_it (fun i f => lr_chI n k i f) i f) ((i * n) + k))), (4, .int (nI (i * n))), (2, .int (nI ((lr_op k) * n))), (0, .ref h), (1, .int (nI k))]) hx hb d_T_chainThrough_122 hl (k := 3) rfl (gx_inc _) (by decide) rfl (fun ls hl => ?_)
                refine lv_goto (tgt := 11) hx hb d_T_chainThrough_125 (by decide) ?_
                have eB5 : lr_it (fun i f => lr_chI n k i f) (i + 1) f = lr_it (fun j g => lr_chJ n k i j g ((lr_it (fun i f => lr_chI n k i f) i f) (i * n + k))) n (lr_it (fun i f => lr_chI n k i f) i f) := by show lr_chI n k i _ = _; exact if_neg c3
                rw [← eB5] at hC
                exact ih_11 (i + 1) (by omega) _ _ _ _ hO hC hfr hP hD hS (lv_sub hl [0, 4, 5, 6] rfl)
              · have c4 : ¬ (n ≤ n) := fun z => c4 ((nI_leI (a := n) (b := n) (by omega) (by omega)).mpr z)
                exfalso; omega
            | succ dd ih_53 =>
              intro jj e_jj w H locs ls hO hC hfr hP hD hS hl
              refine lv_iload hx hb d_T_chainThrough_53 (lv_at hl 0 rfl) ?_
              refine lv_aload_n hx hb d_T_chainThrough_55 rfl (lv_at hl 5 rfl) ?_
              refine gf_T_9 hF hT hK hP hO rfl d_T_chainThrough_56 ?_
              refine lv_icmp_ge (tgt := 122) hx hb d_T_chainThrough_59 (by decide) (fun c6 => ?_) (fun c6 => ?_)
              · have c6 := (nI_leI (a := n) (b := jj) (by omega) (by omega)).mp c6
                exfalso; omega
              · have c6 : ¬ (n ≤ jj) := fun z => c6 ((nI_leI (a := n) (b := jj) (by omega) (by omega)).mpr z)
                refine lv_aload_n hx hb d_T_chainThrough_62 rfl (lv_at hl 5 rfl) ?_
                refine gf_T_15 hF hT hK hP hO rfl d_T_chainThrough_63 ?_
                refine lv_iload_n hx hb d_T_chainThrough_66 rfl (lv_at hl 4 rfl) ?_
                refine lv_iload hx hb d_T_chainThrough_67 (lv_at hl 0 rfl) ?_
                refine lv_iadd hx hb d_T_chainThrough_69 ?_
                refine gx_i (y := nI (((lr_op k) * n) + jj)) (nI_add _ _) ?_
                refine g_lald (t0 := 0) (k := ((lr_op k) * n) + jj) hx hb hK hP hC rfl (lr_ix (by omega) (by omega)) (lr_sq hn) d_T_chainThrough_70 ?_
                refine lv_lstore (lv' := [(8, .long ((lr_it (fun j g => lr_chJ n k i j g ((lr_it (fun i f => lr_chI n k i f) i f) (i * n + k))) jj (lr_it (fun i f => lr_chI n k i f) i f)) (((lr_op k) * n) + jj))), (7, .int (nI jj)), (5, .long ((lr_it (fun i f => lr_chI n k i f) i f) ((i * n) + k))), (4, .int (nI (i * n))), (3, .int (nI i)), (2, .int (nI ((lr_op k) * n))), (0, .ref h), (1, .int (nI k))]) hx hb d_T_chainThrough_71 hl (by decide) rfl (fun ls hl => ?_)
                refine lv_lload hx hb d_T_chainThrough_73 (lv_at hl 0 rfl) ?_
                refine lv_ldc2 (v := lr_E) hx hb hown (hts _ (hT _ wm_1_41)) d_T_chainThrough_75 ?_
                refine gx_leq (tgt := 116) hx hb d_T_chainThrough_78 d_T_chainThrough_79 (by decide) (fun c7 => ?_) (fun c7 => ?_)
                · refine lv_iinc (v := nI (jj + 1)) (lv' := [(7, .int (nI (jj + 1))), (8, .long ((lr_it (fun j g => lr_chJ n k i j g ((lr_it (fun i f => lr_chI n k i f) i f) (i * n + k))) jj (lr_it (fun i f => lr_chI n k i f) i f)) (((lr_op k) * n) + jj))), (5, .long ((lr_it (fun i f => lr_chI n k i f) i f) ((i * n) + k))), (4, .int (nI (i * n))), (3, .int (nI i)), (2, .int (nI ((lr_op k) * n))), (0, .ref h), (1, .int (nI k))]) hx hb d_T_chainThrough_116 hl (k := 1) rfl (gx_inc _) (by decide) rfl (fun ls hl => ?_)
                  refine lv_goto (tgt := 53) hx hb d_T_chainThrough_119 (by decide) ?_
                  have eB8 : lr_it (fun j g => lr_chJ n k i j g ((lr_it (fun i f => lr_chI n k i f) i f) (i * n + k))) (jj + 1) (lr_it (fun i f => lr_chI n k i f) i f) = lr_it (fun j g => lr_chJ n k i j g ((lr_it (fun i f => lr_chI n k i f) i f) (i * n + k))) jj (lr_it (fun i f => lr_chI n k i f) i f) := by show lr_chJ n k i jj _ _ = _; exact if_pos c7
                  rw [← eB8] at hC
                  exact ih_53 (jj + 1) (by omega) _ _ _ _ hO hC hfr hP hD hS (lv_sub hl [0, 2, 3, 4, 5, 6, 7] rfl)
                · refine lv_lload hx hb d_T_chainThrough_82 (lv_at hl 2 rfl) ?_
                  refine lv_lload hx hb d_T_chainThrough_84 (lv_at hl 0 rfl) ?_
                  refine lv_ladd hx hb d_T_chainThrough_86 ?_
                  refine lv_aload_n hx hb d_T_chainThrough_87 rfl (lv_at hl 6 rfl) ?_
                  refine gf_T_15 hF hT hK hP hO rfl d_T_chainThrough_88 ?_
                  refine lv_iload hx hb d_T_chainThrough_91 (lv_at hl 3 rfl) ?_
                  refine lv_iload hx hb d_T_chainThrough_93 (lv_at hl 1 rfl) ?_
                  refine lv_iadd hx hb d_T_chainThrough_95 ?_
                  refine gx_i (y := nI ((i * n) + jj)) (nI_add _ _) ?_
                  refine g_lald (t0 := 0) (k := (i * n) + jj) hx hb hK hP hC rfl (lr_ix (by omega) (by omega)) (lr_sq hn) d_T_chainThrough_96 ?_
                  refine gx_lge (tgt := 116) hx hb d_T_chainThrough_97 d_T_chainThrough_98 (by decide) (fun c9 => ?_) (fun c9 => ?_)
                  · refine lv_iinc (v := nI (jj + 1)) (lv' := [(7, .int (nI (jj + 1))), (8, .long ((lr_it (fun j g => lr_chJ n k i j g ((lr_it (fun i f => lr_chI n k i f) i f) (i * n + k))) jj (lr_it (fun i f => lr_chI n k i f) i f)) (((lr_op k) * n) + jj))), (5, .long ((lr_it (fun i f => lr_chI n k i f) i f) ((i * n) + k))), (4, .int (nI (i * n))), (3, .int (nI i)), (2, .int (nI ((lr_op k) * n))), (0, .ref h), (1, .int (nI k))]) hx hb d_T_chainThrough_116 hl (k := 1) rfl (gx_inc _) (by decide) rfl (fun ls hl => ?_)
                    refine lv_goto (tgt := 53) hx hb d_T_chainThrough_119 (by decide) ?_
                    have eB10 : lr_it (fun j g => lr_chJ n k i j g ((lr_it (fun i f => lr_chI n k i f) i f) (i * n + k))) (jj + 1) (lr_it (fun i f => lr_chI n k i f) i f) = lr_it (fun j g => lr_chJ n k i j g ((lr_it (fun i f => lr_chI n k i f) i f) (i * n + k))) jj (lr_it (fun i f => lr_chI n k i f) i f) := by show lr_chJ n k i jj _ _ = _; exact (if_neg c7).trans (if_pos c9)
                    rw [← eB10] at hC
                    exact ih_53 (jj + 1) (by omega) _ _ _ _ hO hC hfr hP hD hS (lv_sub hl [0, 2, 3, 4, 5, 6, 7] rfl)
                  · refine lv_aload_n hx hb d_T_chainThrough_101 rfl (lv_at hl 6 rfl) ?_
                    refine gf_T_15 hF hT hK hP hO rfl d_T_chainThrough_102 ?_
                    refine lv_iload hx hb d_T_chainThrough_105 (lv_at hl 3 rfl) ?_
                    refine lv_iload hx hb d_T_chainThrough_107 (lv_at hl 1 rfl) ?_
                    refine lv_iadd hx hb d_T_chainThrough_109 ?_
                    refine gx_i (y := nI ((i * n) + jj)) (nI_add _ _) ?_
                    refine lv_lload hx hb d_T_chainThrough_110 (lv_at hl 2 rfl) ?_
                    refine lv_lload hx hb d_T_chainThrough_112 (lv_at hl 0 rfl) ?_
                    refine lv_ladd hx hb d_T_chainThrough_114 ?_
                    refine g_last (t0 := 0) (k := (i * n) + jj) hx hb hK hP hD hS hC rfl (lr_ix (by omega) (by omega)) (lr_sq hn) d_T_chainThrough_115 (fun w H locs hC hf hP hD hS => ?_)
                    have hO := hf.at hO (by omega)
                    have hfr := hfr.in hf (by omega) (by omega)
                    refine lv_iinc (v := nI (jj + 1)) (lv' := [(7, .int (nI (jj + 1))), (8, .long ((lr_it (fun j g => lr_chJ n k i j g ((lr_it (fun i f => lr_chI n k i f) i f) (i * n + k))) jj (lr_it (fun i f => lr_chI n k i f) i f)) (((lr_op k) * n) + jj))), (5, .long ((lr_it (fun i f => lr_chI n k i f) i f) ((i * n) + k))), (4, .int (nI (i * n))), (3, .int (nI i)), (2, .int (nI ((lr_op k) * n))), (0, .ref h), (1, .int (nI k))]) hx hb d_T_chainThrough_116 hl (k := 1) rfl (gx_inc _) (by decide) rfl (fun ls hl => ?_)
                    refine lv_goto (tgt := 53) hx hb d_T_chainThrough_119 (by decide) ?_
                    have eB11 : lr_it (fun j g => lr_chJ n k i j g ((lr_it (fun i f => lr_chI n k i f) i f) (i * n + k))) (jj + 1) (lr_it (fun i f => lr_chI n k i f) i f) = vp_updL (lr_it (fun j g => lr_chJ n k i j g ((lr_it (fun i f => lr_chI n k i f) i f) (i * n + k))) jj (lr_it (fun i f => lr_chI n k i f) i f)) ((i * n) + jj) (((lr_it (fun i f => lr_chI n k i f) i f) ((i * n) + k)) + ((lr_it (fun j g => lr_chJ n k i j g ((lr_it (fun i f => lr_chI n k i f) i f) (i * n + k))) jj (lr_it (fun i f => lr_chI n k i f) i f)) (((lr_op k) * n) + jj))) := by show lr_chJ n k i jj _ _ = _; exact (if_neg c7).trans (if_neg c9)
                    rw [← eB11] at hC
                    exact ih_53 (jj + 1) (by omega) _ _ _ _ hO hC hfr hP hD hS (lv_sub hl [0, 2, 3, 4, 5, 6, 7] rfl)
          exact lp_53 n 0 (by omega) _ _ _ _ hO hC hfr hP hD hS (lv_sub hl [0, 1, 2, 3, 4, 5, 6] rfl)
        · refine lv_goto (tgt := 122) hx hb d_T_chainThrough_47 (by decide) ?_
          refine lv_iinc (v := nI (i + 1)) (lv' := [(3, .int (nI (i + 1))), (5, .long ((lr_it (fun i f => lr_chI n k i f) i f) ((i * n) + k))), (4, .int (nI (i * n))), (2, .int (nI ((lr_op k) * n))), (0, .ref h), (1, .int (nI k))]) hx hb d_T_chainThrough_122 hl (k := 2) rfl (gx_inc _) (by decide) rfl (fun ls hl => ?_)
          refine lv_goto (tgt := 11) hx hb d_T_chainThrough_125 (by decide) ?_
          have eB12 : lr_it (fun i f => lr_chI n k i f) (i + 1) f = lr_it (fun i f => lr_chI n k i f) i f := by show lr_chI n k i _ = _; exact if_pos c3
          rw [← eB12] at hC
          exact ih_11 (i + 1) (by omega) _ _ _ _ hO hC hfr hP hD hS (lv_sub hl [0, 3, 4, 5] rfl)
  exact lp_11 n 0 (by omega) _ _ _ _ hO hC hfr hP hD hS (lv_sub hl [0, 1, 2, 3] rfl)
