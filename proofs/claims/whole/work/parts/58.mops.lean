set_option maxHeartbeats 4000000 in
set_option maxRecDepth 100000 in
theorem c_M_bound {l : Launch} {D : va_G} {cJ cI cZ cS : ClassId} {ws : va_W} {sz : Nat} {b N nm : Nat} {A : Nat → Nat} {th : Int32} {R Pt nC : Nat → Int64} {Em nA nB : Nat → Int32} (hM : mS cJ cI cZ ws b A N th nm R Em Pt nA nB nC) (hN1 : 1 ≤ N) (hN5 : N ≤ 5) {CF : Nat → Nat → Nat → Int64} (hF1 : lm_F N R Em CF) {x y z : Int32} : Met l y_M_bound w_M_bound ({ frames := 4, cells := 0, slots := 0, locals := 71 } : Room) (gw_Pc D classes (gT cJ cI cZ cS) [.ref (A 0), .int x, .int y, .int z] ws sz) (va_Ql (fun r w => (∃ th', ((¬ (okS x ∧ okT N y ∧ okT N z) ∧ th' = nI 1) ∨ (∃ k, k < 8 ∧ x = nI k ∧ okT N y ∧ okT N z ∧ th' = nI 0 ∧ ((Em k = 0 ∧ r = lm_bd (CF k) y z) ∨ (¬ Em k = 0 ∧ r = -4611686018427387904)))) ∧ mS cJ cI cZ w b A N th' nm R Em Pt nA nB nC) ∧ gF b (b + 11) ws w) (gw_B D classes (gT cJ cI cZ cS) ws sz) (va_A ws sz)) 0 0 (va_A ws sz) := by
  refine gw_head (by decide) (Nat.le_of_ble_eq_true rfl) (fun p e s m below meth c hsz hx hb hr hlocks hml hown hnm hts hK hN hP hD hS hA ls hl => ?_)
  have hown : s.vm.findClass R_M = some m.cls := hown
  have hT : ∀ w ∈ wG, w ∈ Cond.code y_M_bound b_M_bound 4 (some .long) :: wG := gd_t _
  have hF : CallFix p m c b_M_bound 4 s ([.ref (A 0), .int x, .int y, .int z] : List Value).toArray (Cond.code y_M_bound b_M_bound 4 (some .long) :: wG) R_M := ⟨hx, hb, hml, hown, hts⟩
  have hl : lv_has ls 4 [(0, .ref (A 0)), (1, .int x), (2, .int y), (3, .int z)] := hl
  obtain ⟨D0, O, Md, Lf, m0, mR, mE, mD, mO, mM, mP, mA, mB, mC, mL⟩ := hM
  have hfr : gF b (b + 11) ws ws := gF.rf
  refine lv_aload_n hx hb d_M_bound_0 rfl (lv_at hl 0 rfl) ?_
  refine lv_aload_n hx hb d_M_bound_1 rfl (lv_at hl 0 rfl) ?_
  refine lv_iload_n hx hb d_M_bound_2 rfl (lv_at hl 1 rfl) ?_
  refine gw_ci0 (gc_M_83 (As := [.int x]) (rest := [.ref (A 0)]) hF hT (c_M_isShape m0 hN1 hN5) ⟨(Nat.le_of_ble_eq_true rfl), (Nat.le_of_ble_eq_true rfl)⟩ rfl rfl hK hN hP hD m0 rfl hl.1 rfl (Nat.le_of_ble_eq_true rfl) d_M_bound_3 ⟨(Nat.le_of_ble_eq_true rfl), (Nat.le_of_ble_eq_true rfl)⟩) hD hS hA (fun r1 H locs e_r1 hP hD hS => ?_)
  refine lv_if_eq (tgt := 29) hx hb d_M_bound_6 (by decide) (fun c2 => ?_) (fun c2 => ?_)
  · refine lv_iconst (v := nI 1) hx hb d_M_bound_29 (by decide) ?_
    refine gp_M_48 hF hT hK hP hD hS (fs1 := [.int (nI 1), .int (nI N), .ref (A 1), .ref (A 2), .ref (A 3), .ref (A 4), .ref (A 5), .ref (A 6), .int (nI nm), .ref (A 7), .ref (A 8), .ref (A 9), .ref (A 10)]) m0 rfl rfl (Nat.le_of_ble_eq_true rfl) rfl d_M_bound_30 (fun w H locs m0 hf hP hD hS => ?_)
    have mR := hf.at mR (by omega)
    have mE := hf.at mE (by omega)
    have mD := hf.at mD (by omega)
    have mO := hf.at mO (by omega)
    have mM := hf.at mM (by omega)
    have mP := hf.at mP (by omega)
    have mA := hf.at mA (by omega)
    have mB := hf.at mB (by omega)
    have mC := hf.at mC (by omega)
    have mL := hf.at mL (by omega)
    have hfr := hfr.in hf (by omega) (by omega)
    refine lv_aload_n hx hb d_M_bound_33 rfl (lv_at hl 0 rfl) ?_
    refine gf_M_48 hF hT hK hP m0 rfl d_M_bound_34 ?_
    refine lv_if_le (tgt := 42) hx hb d_M_bound_37 (by decide) (fun c3 => ?_) (fun c3 => ?_)
    · have c3 := (nI_leI (a := 1) (b := 0) (by omega) (by omega)).mp c3
      exfalso; omega
    · have c3 : ¬ (1 ≤ 0) := fun z => c3 ((nI_leI (a := 1) (b := 0) (by omega) (by omega)).mpr z)
      refine lv_lconst (v := 0) hx hb d_M_bound_40 rfl ?_
      exact gw_lret hx hb hr hlocks hK hP hD hS (Nat.le_of_ble_eq_true rfl) (Nat.le_of_ble_eq_true rfl) d_M_bound_41 ⟨⟨_, Or.inl ⟨fun q => gb_t e_r1 c2 q.1, rfl⟩, ⟨_, _, _, _, m0, mR, mE, mD, mO, mM, mP, mA, mB, mC, mL⟩⟩, hfr⟩
  · have hq_x := gb_f e_r1 c2
    obtain ⟨k, hk, ek⟩ := hq_x.k
    rw [ek] at hl
    refine lv_aload_n hx hb d_M_bound_9 rfl (lv_at hl 0 rfl) ?_
    refine lv_iload_n hx hb d_M_bound_10 rfl (lv_at hl 2 rfl) ?_
    refine gw_ci0 (gc_M_91 (As := [.int y]) (rest := [.ref (A 0)]) hF hT (c_M_isTerm m0 hN1 hN5) ⟨(Nat.le_of_ble_eq_true rfl), (Nat.le_of_ble_eq_true rfl)⟩ rfl rfl hK hN hP hD m0 rfl hl.1 rfl (Nat.le_of_ble_eq_true rfl) d_M_bound_11 ⟨(Nat.le_of_ble_eq_true rfl), (Nat.le_of_ble_eq_true rfl)⟩) hD hS hA (fun r4 H locs e_r4 hP hD hS => ?_)
    refine lv_if_eq (tgt := 29) hx hb d_M_bound_14 (by decide) (fun c5 => ?_) (fun c5 => ?_)
    · refine lv_iconst (v := nI 1) hx hb d_M_bound_29 (by decide) ?_
      refine gp_M_48 hF hT hK hP hD hS (fs1 := [.int (nI 1), .int (nI N), .ref (A 1), .ref (A 2), .ref (A 3), .ref (A 4), .ref (A 5), .ref (A 6), .int (nI nm), .ref (A 7), .ref (A 8), .ref (A 9), .ref (A 10)]) m0 rfl rfl (Nat.le_of_ble_eq_true rfl) rfl d_M_bound_30 (fun w H locs m0 hf hP hD hS => ?_)
      have mR := hf.at mR (by omega)
      have mE := hf.at mE (by omega)
      have mD := hf.at mD (by omega)
      have mO := hf.at mO (by omega)
      have mM := hf.at mM (by omega)
      have mP := hf.at mP (by omega)
      have mA := hf.at mA (by omega)
      have mB := hf.at mB (by omega)
      have mC := hf.at mC (by omega)
      have mL := hf.at mL (by omega)
      have hfr := hfr.in hf (by omega) (by omega)
      refine lv_aload_n hx hb d_M_bound_33 rfl (lv_at hl 0 rfl) ?_
      refine gf_M_48 hF hT hK hP m0 rfl d_M_bound_34 ?_
      refine lv_if_le (tgt := 42) hx hb d_M_bound_37 (by decide) (fun c6 => ?_) (fun c6 => ?_)
      · have c6 := (nI_leI (a := 1) (b := 0) (by omega) (by omega)).mp c6
        exfalso; omega
      · have c6 : ¬ (1 ≤ 0) := fun z => c6 ((nI_leI (a := 1) (b := 0) (by omega) (by omega)).mpr z)
        refine lv_lconst (v := 0) hx hb d_M_bound_40 rfl ?_
        exact gw_lret hx hb hr hlocks hK hP hD hS (Nat.le_of_ble_eq_true rfl) (Nat.le_of_ble_eq_true rfl) d_M_bound_41 ⟨⟨_, Or.inl ⟨fun q => gb_t e_r4 c5 q.2.1, rfl⟩, ⟨_, _, _, _, m0, mR, mE, mD, mO, mM, mP, mA, mB, mC, mL⟩⟩, hfr⟩
    · have hq_y := gb_f e_r4 c5
      have ht_y := hq_y.tm hN5
      refine lv_aload_n hx hb d_M_bound_17 rfl (lv_at hl 0 rfl) ?_
      refine lv_iload_n hx hb d_M_bound_18 rfl (lv_at hl 3 rfl) ?_
      refine gw_ci0 (gc_M_91 (As := [.int z]) (rest := [.ref (A 0)]) hF hT (c_M_isTerm m0 hN1 hN5) ⟨(Nat.le_of_ble_eq_true rfl), (Nat.le_of_ble_eq_true rfl)⟩ rfl rfl hK hN hP hD m0 rfl hl.1 rfl (Nat.le_of_ble_eq_true rfl) d_M_bound_19 ⟨(Nat.le_of_ble_eq_true rfl), (Nat.le_of_ble_eq_true rfl)⟩) hD hS hA (fun r7 H locs e_r7 hP hD hS => ?_)
      refine lv_if_eq (tgt := 29) hx hb d_M_bound_22 (by decide) (fun c8 => ?_) (fun c8 => ?_)
      · refine lv_iconst (v := nI 1) hx hb d_M_bound_29 (by decide) ?_
        refine gp_M_48 hF hT hK hP hD hS (fs1 := [.int (nI 1), .int (nI N), .ref (A 1), .ref (A 2), .ref (A 3), .ref (A 4), .ref (A 5), .ref (A 6), .int (nI nm), .ref (A 7), .ref (A 8), .ref (A 9), .ref (A 10)]) m0 rfl rfl (Nat.le_of_ble_eq_true rfl) rfl d_M_bound_30 (fun w H locs m0 hf hP hD hS => ?_)
        have mR := hf.at mR (by omega)
        have mE := hf.at mE (by omega)
        have mD := hf.at mD (by omega)
        have mO := hf.at mO (by omega)
        have mM := hf.at mM (by omega)
        have mP := hf.at mP (by omega)
        have mA := hf.at mA (by omega)
        have mB := hf.at mB (by omega)
        have mC := hf.at mC (by omega)
        have mL := hf.at mL (by omega)
        have hfr := hfr.in hf (by omega) (by omega)
        refine lv_aload_n hx hb d_M_bound_33 rfl (lv_at hl 0 rfl) ?_
        refine gf_M_48 hF hT hK hP m0 rfl d_M_bound_34 ?_
        refine lv_if_le (tgt := 42) hx hb d_M_bound_37 (by decide) (fun c9 => ?_) (fun c9 => ?_)
        · have c9 := (nI_leI (a := 1) (b := 0) (by omega) (by omega)).mp c9
          exfalso; omega
        · have c9 : ¬ (1 ≤ 0) := fun z => c9 ((nI_leI (a := 1) (b := 0) (by omega) (by omega)).mpr z)
          refine lv_lconst (v := 0) hx hb d_M_bound_40 rfl ?_
          exact gw_lret hx hb hr hlocks hK hP hD hS (Nat.le_of_ble_eq_true rfl) (Nat.le_of_ble_eq_true rfl) d_M_bound_41 ⟨⟨_, Or.inl ⟨fun q => gb_t e_r7 c8 q.2.2, rfl⟩, ⟨_, _, _, _, m0, mR, mE, mD, mO, mM, mP, mA, mB, mC, mL⟩⟩, hfr⟩
      · have hq_z := gb_f e_r7 c8
        have ht_z := hq_z.tm hN5
        refine lv_iconst (v := nI 0) hx hb d_M_bound_25 (by decide) ?_
        refine lv_goto (tgt := 30) hx hb d_M_bound_26 (by decide) ?_
        refine gp_M_48 hF hT hK hP hD hS (fs1 := [.int (nI 0), .int (nI N), .ref (A 1), .ref (A 2), .ref (A 3), .ref (A 4), .ref (A 5), .ref (A 6), .int (nI nm), .ref (A 7), .ref (A 8), .ref (A 9), .ref (A 10)]) m0 rfl rfl (Nat.le_of_ble_eq_true rfl) rfl d_M_bound_30 (fun w H locs m0 hf hP hD hS => ?_)
        have mR := hf.at mR (by omega)
        have mE := hf.at mE (by omega)
        have mD := hf.at mD (by omega)
        have mO := hf.at mO (by omega)
        have mM := hf.at mM (by omega)
        have mP := hf.at mP (by omega)
        have mA := hf.at mA (by omega)
        have mB := hf.at mB (by omega)
        have mC := hf.at mC (by omega)
        have mL := hf.at mL (by omega)
        have hfr := hfr.in hf (by omega) (by omega)
        refine lv_aload_n hx hb d_M_bound_33 rfl (lv_at hl 0 rfl) ?_
        refine gf_M_48 hF hT hK hP m0 rfl d_M_bound_34 ?_
        refine lv_if_le (tgt := 42) hx hb d_M_bound_37 (by decide) (fun c10 => ?_) (fun c10 => ?_)
        · have c10 := (nI_leI (a := 0) (b := 0) (by omega) (by omega)).mp c10
          refine lv_aload_n hx hb d_M_bound_42 rfl (lv_at hl 0 rfl) ?_
          refine lv_iload_n hx hb d_M_bound_43 rfl (lv_at hl 1 rfl) ?_
          refine gw_ci (gc_M_98 (As := [.int (nI k)]) (rest := []) hF hT (c_M_closeShape m0 mR mE mD hN1 hN5 (u := k) (by omega) (hF1 k hk)) ⟨(Nat.le_of_ble_eq_true rfl), (Nat.le_of_ble_eq_true rfl)⟩ rfl rfl hK hN hP hD m0 rfl hl.1 rfl (Nat.le_of_ble_eq_true rfl) d_M_bound_44 ⟨(Nat.le_of_ble_eq_true rfl), (Nat.le_of_ble_eq_true rfl)⟩) hD hS hA (fun r11 w H locs hw hP hD hS => ?_)
          obtain ⟨⟨F12, mD, h_r11⟩, hf⟩ := hw
          have m0 := hf.at m0 (by omega)
          have mR := hf.at mR (by omega)
          have mE := hf.at mE (by omega)
          have mO := hf.at mO (by omega)
          have mM := hf.at mM (by omega)
          have mP := hf.at mP (by omega)
          have mA := hf.at mA (by omega)
          have mB := hf.at mB (by omega)
          have mC := hf.at mC (by omega)
          have mL := hf.at mL (by omega)
          have hfr := hfr.in hf (by omega) (by omega)
          refine lv_if_eq (tgt := 59) hx hb d_M_bound_47 (by decide) (fun c13 => ?_) (fun c13 => ?_)
          · refine lv_ldc2 (v := (-4611686018427387904 : Int64)) hx hb hown (hts _ (hT _ wm_3_235)) d_M_bound_59 ?_
            exact gw_lret hx hb hr hlocks hK hP hD hS (Nat.le_of_ble_eq_true rfl) (Nat.le_of_ble_eq_true rfl) d_M_bound_62 ⟨⟨_, Or.inr ⟨k, hk, ek, hq_y, hq_z, rfl, Or.inr ⟨h_r11.n c13, rfl⟩⟩, ⟨_, _, _, _, m0, mR, mE, mD, mO, mM, mP, mA, mB, mC, mL⟩⟩, hfr⟩
          · obtain ⟨hE0, _, hag⟩ := h_r11.y c13
            refine lv_aload_n hx hb d_M_bound_50 rfl (lv_at hl 0 rfl) ?_
            refine lv_iload_n hx hb d_M_bound_51 rfl (lv_at hl 2 rfl) ?_
            refine lv_iload_n hx hb d_M_bound_52 rfl (lv_at hl 3 rfl) ?_
            refine gw_cl0 (gc_M_104 (As := [.int y, .int z]) (rest := []) hF hT (c_M_boundOf m0 mD hN1 hN5 hag ht_y ht_z) ⟨(Nat.le_of_ble_eq_true rfl), (Nat.le_of_ble_eq_true rfl)⟩ rfl rfl hK hN hP hD m0 rfl hl.1 rfl (Nat.le_of_ble_eq_true rfl) d_M_bound_53 ⟨(Nat.le_of_ble_eq_true rfl), (Nat.le_of_ble_eq_true rfl)⟩) hD hS hA (fun r14 H locs e_r14 hP hD hS => ?_)
            subst e_r14
            refine lv_goto (tgt := 62) hx hb d_M_bound_56 (by decide) ?_
            exact gw_lret hx hb hr hlocks hK hP hD hS (Nat.le_of_ble_eq_true rfl) (Nat.le_of_ble_eq_true rfl) d_M_bound_62 ⟨⟨_, Or.inr ⟨k, hk, ek, hq_y, hq_z, rfl, Or.inl ⟨hE0, rfl⟩⟩, ⟨_, _, _, _, m0, mR, mE, mD, mO, mM, mP, mA, mB, mC, mL⟩⟩, hfr⟩
        · have c10 : ¬ (0 ≤ 0) := fun z => c10 ((nI_leI (a := 0) (b := 0) (by omega) (by omega)).mpr z)
          exfalso; omega

set_option maxHeartbeats 4000000 in
set_option maxRecDepth 100000 in
theorem c_M_kept {l : Launch} {D : va_G} {cJ cI cZ cS : ClassId} {ws : va_W} {sz : Nat} {b N nm : Nat} {A : Nat → Nat} {th : Int32} {R Pt nC : Nat → Int64} {Em nA nB : Nat → Int32} (hM : mS cJ cI cZ ws b A N th nm R Em Pt nA nB nC) (hN1 : 1 ≤ N) (hN5 : N ≤ 5) {x y z : Int32} : Met l y_M_kept w_M_kept ({ frames := 2, cells := 0, slots := 0, locals := 21 } : Room) (gw_Pc D classes (gT cJ cI cZ cS) [.ref (A 0), .int x, .int y, .int z] ws sz) (va_Ql (fun r w => (∃ th', ((¬ (okS x ∧ okT N y ∧ okT N z) ∧ th' = nI 1) ∨ (∃ k, k < 8 ∧ x = nI k ∧ okT N y ∧ okT N z ∧ th' = nI 0 ∧ r = lm_kv R k y z)) ∧ mS cJ cI cZ w b A N th' nm R Em Pt nA nB nC) ∧ gF b (b + 11) ws w) (gw_B D classes (gT cJ cI cZ cS) ws sz) (va_A ws sz)) 0 0 (va_A ws sz) := by
  refine gw_head (by decide) (Nat.le_of_ble_eq_true rfl) (fun p e s m below meth c hsz hx hb hr hlocks hml hown hnm hts hK hN hP hD hS hA ls hl => ?_)
  have hown : s.vm.findClass R_M = some m.cls := hown
  have hT : ∀ w ∈ wG, w ∈ Cond.code y_M_kept b_M_kept 4 (some .long) :: wG := gd_t _
  have hF : CallFix p m c b_M_kept 4 s ([.ref (A 0), .int x, .int y, .int z] : List Value).toArray (Cond.code y_M_kept b_M_kept 4 (some .long) :: wG) R_M := ⟨hx, hb, hml, hown, hts⟩
  have hl : lv_has ls 4 [(0, .ref (A 0)), (1, .int x), (2, .int y), (3, .int z)] := hl
  obtain ⟨D0, O, Md, Lf, m0, mR, mE, mD, mO, mM, mP, mA, mB, mC, mL⟩ := hM
  have hfr : gF b (b + 11) ws ws := gF.rf
  refine lv_aload_n hx hb d_M_kept_0 rfl (lv_at hl 0 rfl) ?_
  refine lv_aload_n hx hb d_M_kept_1 rfl (lv_at hl 0 rfl) ?_
  refine lv_iload_n hx hb d_M_kept_2 rfl (lv_at hl 1 rfl) ?_
  refine gw_ci0 (gc_M_83 (As := [.int x]) (rest := [.ref (A 0)]) hF hT (c_M_isShape m0 hN1 hN5) ⟨(Nat.le_of_ble_eq_true rfl), (Nat.le_of_ble_eq_true rfl)⟩ rfl rfl hK hN hP hD m0 rfl hl.1 rfl (Nat.le_of_ble_eq_true rfl) d_M_kept_3 ⟨(Nat.le_of_ble_eq_true rfl), (Nat.le_of_ble_eq_true rfl)⟩) hD hS hA (fun r1 H locs e_r1 hP hD hS => ?_)
  refine lv_if_eq (tgt := 29) hx hb d_M_kept_6 (by decide) (fun c2 => ?_) (fun c2 => ?_)
  · refine lv_iconst (v := nI 1) hx hb d_M_kept_29 (by decide) ?_
    refine gp_M_48 hF hT hK hP hD hS (fs1 := [.int (nI 1), .int (nI N), .ref (A 1), .ref (A 2), .ref (A 3), .ref (A 4), .ref (A 5), .ref (A 6), .int (nI nm), .ref (A 7), .ref (A 8), .ref (A 9), .ref (A 10)]) m0 rfl rfl (Nat.le_of_ble_eq_true rfl) rfl d_M_kept_30 (fun w H locs m0 hf hP hD hS => ?_)
    have mR := hf.at mR (by omega)
    have mE := hf.at mE (by omega)
    have mD := hf.at mD (by omega)
    have mO := hf.at mO (by omega)
    have mM := hf.at mM (by omega)
    have mP := hf.at mP (by omega)
    have mA := hf.at mA (by omega)
    have mB := hf.at mB (by omega)
    have mC := hf.at mC (by omega)
    have mL := hf.at mL (by omega)
    have hfr := hfr.in hf (by omega) (by omega)
    refine lv_aload_n hx hb d_M_kept_33 rfl (lv_at hl 0 rfl) ?_
    refine gf_M_48 hF hT hK hP m0 rfl d_M_kept_34 ?_
    refine lv_if_le (tgt := 42) hx hb d_M_kept_37 (by decide) (fun c3 => ?_) (fun c3 => ?_)
    · have c3 := (nI_leI (a := 1) (b := 0) (by omega) (by omega)).mp c3
      exfalso; omega
    · have c3 : ¬ (1 ≤ 0) := fun z => c3 ((nI_leI (a := 1) (b := 0) (by omega) (by omega)).mpr z)
      refine lv_lconst (v := 0) hx hb d_M_kept_40 rfl ?_
      exact gw_lret hx hb hr hlocks hK hP hD hS (Nat.le_of_ble_eq_true rfl) (Nat.le_of_ble_eq_true rfl) d_M_kept_41 ⟨⟨_, Or.inl ⟨fun q => gb_t e_r1 c2 q.1, rfl⟩, ⟨_, _, _, _, m0, mR, mE, mD, mO, mM, mP, mA, mB, mC, mL⟩⟩, hfr⟩
  · have hq_x := gb_f e_r1 c2
    obtain ⟨k, hk, ek⟩ := hq_x.k
    rw [ek] at hl
    refine lv_aload_n hx hb d_M_kept_9 rfl (lv_at hl 0 rfl) ?_
    refine lv_iload_n hx hb d_M_kept_10 rfl (lv_at hl 2 rfl) ?_
    refine gw_ci0 (gc_M_91 (As := [.int y]) (rest := [.ref (A 0)]) hF hT (c_M_isTerm m0 hN1 hN5) ⟨(Nat.le_of_ble_eq_true rfl), (Nat.le_of_ble_eq_true rfl)⟩ rfl rfl hK hN hP hD m0 rfl hl.1 rfl (Nat.le_of_ble_eq_true rfl) d_M_kept_11 ⟨(Nat.le_of_ble_eq_true rfl), (Nat.le_of_ble_eq_true rfl)⟩) hD hS hA (fun r4 H locs e_r4 hP hD hS => ?_)
    refine lv_if_eq (tgt := 29) hx hb d_M_kept_14 (by decide) (fun c5 => ?_) (fun c5 => ?_)
    · refine lv_iconst (v := nI 1) hx hb d_M_kept_29 (by decide) ?_
      refine gp_M_48 hF hT hK hP hD hS (fs1 := [.int (nI 1), .int (nI N), .ref (A 1), .ref (A 2), .ref (A 3), .ref (A 4), .ref (A 5), .ref (A 6), .int (nI nm), .ref (A 7), .ref (A 8), .ref (A 9), .ref (A 10)]) m0 rfl rfl (Nat.le_of_ble_eq_true rfl) rfl d_M_kept_30 (fun w H locs m0 hf hP hD hS => ?_)
      have mR := hf.at mR (by omega)
      have mE := hf.at mE (by omega)
      have mD := hf.at mD (by omega)
      have mO := hf.at mO (by omega)
      have mM := hf.at mM (by omega)
      have mP := hf.at mP (by omega)
      have mA := hf.at mA (by omega)
      have mB := hf.at mB (by omega)
      have mC := hf.at mC (by omega)
      have mL := hf.at mL (by omega)
      have hfr := hfr.in hf (by omega) (by omega)
      refine lv_aload_n hx hb d_M_kept_33 rfl (lv_at hl 0 rfl) ?_
      refine gf_M_48 hF hT hK hP m0 rfl d_M_kept_34 ?_
      refine lv_if_le (tgt := 42) hx hb d_M_kept_37 (by decide) (fun c6 => ?_) (fun c6 => ?_)
      · have c6 := (nI_leI (a := 1) (b := 0) (by omega) (by omega)).mp c6
        exfalso; omega
      · have c6 : ¬ (1 ≤ 0) := fun z => c6 ((nI_leI (a := 1) (b := 0) (by omega) (by omega)).mpr z)
        refine lv_lconst (v := 0) hx hb d_M_kept_40 rfl ?_
        exact gw_lret hx hb hr hlocks hK hP hD hS (Nat.le_of_ble_eq_true rfl) (Nat.le_of_ble_eq_true rfl) d_M_kept_41 ⟨⟨_, Or.inl ⟨fun q => gb_t e_r4 c5 q.2.1, rfl⟩, ⟨_, _, _, _, m0, mR, mE, mD, mO, mM, mP, mA, mB, mC, mL⟩⟩, hfr⟩
    · have hq_y := gb_f e_r4 c5
      have ht_y := hq_y.tm hN5
      refine lv_aload_n hx hb d_M_kept_17 rfl (lv_at hl 0 rfl) ?_
      refine lv_iload_n hx hb d_M_kept_18 rfl (lv_at hl 3 rfl) ?_
      refine gw_ci0 (gc_M_91 (As := [.int z]) (rest := [.ref (A 0)]) hF hT (c_M_isTerm m0 hN1 hN5) ⟨(Nat.le_of_ble_eq_true rfl), (Nat.le_of_ble_eq_true rfl)⟩ rfl rfl hK hN hP hD m0 rfl hl.1 rfl (Nat.le_of_ble_eq_true rfl) d_M_kept_19 ⟨(Nat.le_of_ble_eq_true rfl), (Nat.le_of_ble_eq_true rfl)⟩) hD hS hA (fun r7 H locs e_r7 hP hD hS => ?_)
      refine lv_if_eq (tgt := 29) hx hb d_M_kept_22 (by decide) (fun c8 => ?_) (fun c8 => ?_)
      · refine lv_iconst (v := nI 1) hx hb d_M_kept_29 (by decide) ?_
        refine gp_M_48 hF hT hK hP hD hS (fs1 := [.int (nI 1), .int (nI N), .ref (A 1), .ref (A 2), .ref (A 3), .ref (A 4), .ref (A 5), .ref (A 6), .int (nI nm), .ref (A 7), .ref (A 8), .ref (A 9), .ref (A 10)]) m0 rfl rfl (Nat.le_of_ble_eq_true rfl) rfl d_M_kept_30 (fun w H locs m0 hf hP hD hS => ?_)
        have mR := hf.at mR (by omega)
        have mE := hf.at mE (by omega)
        have mD := hf.at mD (by omega)
        have mO := hf.at mO (by omega)
        have mM := hf.at mM (by omega)
        have mP := hf.at mP (by omega)
        have mA := hf.at mA (by omega)
        have mB := hf.at mB (by omega)
        have mC := hf.at mC (by omega)
        have mL := hf.at mL (by omega)
        have hfr := hfr.in hf (by omega) (by omega)
        refine lv_aload_n hx hb d_M_kept_33 rfl (lv_at hl 0 rfl) ?_
        refine gf_M_48 hF hT hK hP m0 rfl d_M_kept_34 ?_
        refine lv_if_le (tgt := 42) hx hb d_M_kept_37 (by decide) (fun c9 => ?_) (fun c9 => ?_)
        · have c9 := (nI_leI (a := 1) (b := 0) (by omega) (by omega)).mp c9
          exfalso; omega
        · have c9 : ¬ (1 ≤ 0) := fun z => c9 ((nI_leI (a := 1) (b := 0) (by omega) (by omega)).mpr z)
          refine lv_lconst (v := 0) hx hb d_M_kept_40 rfl ?_
          exact gw_lret hx hb hr hlocks hK hP hD hS (Nat.le_of_ble_eq_true rfl) (Nat.le_of_ble_eq_true rfl) d_M_kept_41 ⟨⟨_, Or.inl ⟨fun q => gb_t e_r7 c8 q.2.2, rfl⟩, ⟨_, _, _, _, m0, mR, mE, mD, mO, mM, mP, mA, mB, mC, mL⟩⟩, hfr⟩
      · have hq_z := gb_f e_r7 c8
        have ht_z := hq_z.tm hN5
        refine lv_iconst (v := nI 0) hx hb d_M_kept_25 (by decide) ?_
        refine lv_goto (tgt := 30) hx hb d_M_kept_26 (by decide) ?_
        refine gp_M_48 hF hT hK hP hD hS (fs1 := [.int (nI 0), .int (nI N), .ref (A 1), .ref (A 2), .ref (A 3), .ref (A 4), .ref (A 5), .ref (A 6), .int (nI nm), .ref (A 7), .ref (A 8), .ref (A 9), .ref (A 10)]) m0 rfl rfl (Nat.le_of_ble_eq_true rfl) rfl d_M_kept_30 (fun w H locs m0 hf hP hD hS => ?_)
        have mR := hf.at mR (by omega)
        have mE := hf.at mE (by omega)
        have mD := hf.at mD (by omega)
        have mO := hf.at mO (by omega)
        have mM := hf.at mM (by omega)
        have mP := hf.at mP (by omega)
        have mA := hf.at mA (by omega)
        have mB := hf.at mB (by omega)
        have mC := hf.at mC (by omega)
        have mL := hf.at mL (by omega)
        have hfr := hfr.in hf (by omega) (by omega)
        refine lv_aload_n hx hb d_M_kept_33 rfl (lv_at hl 0 rfl) ?_
        refine gf_M_48 hF hT hK hP m0 rfl d_M_kept_34 ?_
        refine lv_if_le (tgt := 42) hx hb d_M_kept_37 (by decide) (fun c10 => ?_) (fun c10 => ?_)
        · have c10 := (nI_leI (a := 0) (b := 0) (by omega) (by omega)).mp c10
          refine lv_iload_n hx hb d_M_kept_42 rfl (lv_at hl 2 rfl) ?_
          refine lv_iload_n hx hb d_M_kept_43 rfl (lv_at hl 3 rfl) ?_
          refine lv_icmp_eq (tgt := 53) hx hb d_M_kept_44 (by decide) (fun c11 => ?_) (fun c11 => ?_)
          · refine lv_ldc2 (v := lr_E) hx hb hown (hts _ (hT _ wm_3_124)) d_M_kept_53 ?_
            exact gw_lret hx hb hr hlocks hK hP hD hS (Nat.le_of_ble_eq_true rfl) (Nat.le_of_ble_eq_true rfl) d_M_kept_56 ⟨⟨_, Or.inr ⟨k, hk, ek, hq_y, hq_z, rfl, by unfold lm_kv; rw [if_pos c11]⟩, ⟨_, _, _, _, m0, mR, mE, mD, mO, mM, mP, mA, mB, mC, mL⟩⟩, hfr⟩
          · refine lv_iload_n hx hb d_M_kept_47 rfl (lv_at hl 2 rfl) ?_
            refine lv_iload_n hx hb d_M_kept_48 rfl (lv_at hl 3 rfl) ?_
            refine lv_ineg hx hb d_M_kept_49 ?_
            refine lv_icmp_ne (tgt := 57) hx hb d_M_kept_50 (by decide) (fun c12 => ?_) (fun c12 => ?_)
            · have hyz : ¬ (y = 0 ∧ z = 0) := fun q => c12 (by rw [q.1, q.2]; decide)
              have hzy : ¬ (z = 0 ∧ y = 0) := fun q => hyz ⟨q.2, q.1⟩
              have hi1 := (lm_x1_tm ht_y ht_z).2 (lm_x1_nz hyz)
              have hk1 := (lm_x1_tm ht_z ht_y).2 (lm_x1_nz hzy)
              refine lv_aload_n hx hb d_M_kept_57 rfl (lv_at hl 0 rfl) ?_
              refine gf_M_7 hF hT hK hP m0 rfl d_M_kept_58 ?_
              refine lv_bipush (v := nI 100) hx hb d_M_kept_61 (by decide) ?_
              refine lv_iload_n hx hb d_M_kept_63 rfl (lv_at hl 1 rfl) ?_
              refine lv_imul hx hb d_M_kept_64 ?_
              refine gx_i (y := nI (100 * k)) (pk_mul _ _) ?_
              refine lv_bipush (v := nI 10) hx hb d_M_kept_65 (by decide) ?_
              have mg_76 : ∀ (H : Heap) (locs : List Loc), va_P D classes w H → va_D (va_A ws sz) w → va_S (va_A ws sz) s.heap H locs → W p l e ({ frames := 2, cells := 0, slots := 0, locals := 21 } : Room) s m ([.ref (A 0), .int x, .int y, .int z] : List Value).toArray below meth c H locs 0 0 (MQ below (va_Ql (fun r w => (∃ th', ((¬ (okS x ∧ okT N y ∧ okT N z) ∧ th' = nI 1) ∨ (∃ k, k < 8 ∧ x = nI k ∧ okT N y ∧ okT N z ∧ th' = nI 0 ∧ r = lm_kv R k y z)) ∧ mS cJ cI cZ w b A N th' nm R Em Pt nA nB nC) ∧ gF b (b + 11) ws w) (gw_B D classes (gT cJ cI cZ cS) ws sz) (va_A ws sz)) ([.ref (A 0), .int x, .int y, .int z] : List Value).toArray s 0 0 (va_A ws sz)) (F0 m 76 ls [.int (lm_x1 y z), .int (nI 10), .int (nI (100 * k)), .ref (A 1)]) := by
                intro H locs hP hD hS
                refine gw_ci0 (gc_M_80 (As := [.int (lm_x1 y z)]) (rest := [.int (nI 10), .int (nI (100 * k)), .ref (A 1)]) hF hT (c_M_at (lm_x1_tm ht_y ht_z).1 (lm_x1_nz hyz)) ⟨(Nat.le_of_ble_eq_true rfl), (Nat.le_of_ble_eq_true rfl)⟩ rfl rfl hK hN hP hD rfl hl.1 rfl (Nat.le_of_ble_eq_true rfl) d_M_kept_76 ⟨(Nat.le_of_ble_eq_true rfl), (Nat.le_of_ble_eq_true rfl)⟩) hD hS hA (fun r13 H locs e_r13 hP hD hS => ?_)
                subst e_r13
                refine lv_imul hx hb d_M_kept_79 ?_
                refine gx_i (y := nI (10 * (lr_pl (lm_x1 y z)))) (pk_mul _ _) ?_
                refine lv_iadd hx hb d_M_kept_80 ?_
                refine gx_i (y := nI ((100 * k) + (10 * (lr_pl (lm_x1 y z))))) (nI_add _ _) ?_
                have mg_90 : ∀ (H : Heap) (locs : List Loc), va_P D classes w H → va_D (va_A ws sz) w → va_S (va_A ws sz) s.heap H locs → W p l e ({ frames := 2, cells := 0, slots := 0, locals := 21 } : Room) s m ([.ref (A 0), .int x, .int y, .int z] : List Value).toArray below meth c H locs 0 0 (MQ below (va_Ql (fun r w => (∃ th', ((¬ (okS x ∧ okT N y ∧ okT N z) ∧ th' = nI 1) ∨ (∃ k, k < 8 ∧ x = nI k ∧ okT N y ∧ okT N z ∧ th' = nI 0 ∧ r = lm_kv R k y z)) ∧ mS cJ cI cZ w b A N th' nm R Em Pt nA nB nC) ∧ gF b (b + 11) ws w) (gw_B D classes (gT cJ cI cZ cS) ws sz) (va_A ws sz)) ([.ref (A 0), .int x, .int y, .int z] : List Value).toArray s 0 0 (va_A ws sz)) (F0 m 90 ls [.int (lm_x1 z y), .int (nI ((100 * k) + (10 * (lr_pl (lm_x1 y z))))), .ref (A 1)]) := by
                  intro H locs hP hD hS
                  refine gw_ci0 (gc_M_80 (As := [.int (lm_x1 z y)]) (rest := [.int (nI ((100 * k) + (10 * (lr_pl (lm_x1 y z))))), .ref (A 1)]) hF hT (c_M_at (lm_x1_tm ht_z ht_y).1 (lm_x1_nz hzy)) ⟨(Nat.le_of_ble_eq_true rfl), (Nat.le_of_ble_eq_true rfl)⟩ rfl rfl hK hN hP hD rfl hl.1 rfl (Nat.le_of_ble_eq_true rfl) d_M_kept_90 ⟨(Nat.le_of_ble_eq_true rfl), (Nat.le_of_ble_eq_true rfl)⟩) hD hS hA (fun r14 H locs e_r14 hP hD hS => ?_)
                  subst e_r14
                  refine lv_iadd hx hb d_M_kept_93 ?_
                  refine gx_i (y := nI (((100 * k) + (10 * (lr_pl (lm_x1 y z)))) + (lr_pl (lm_x1 z y)))) (nI_add _ _) ?_
                  refine g_lald (t0 := 0) (k := ((100 * k) + (10 * (lr_pl (lm_x1 y z)))) + (lr_pl (lm_x1 z y))) hx hb hK hP mR rfl (by omega) (by omega) d_M_kept_94 ?_
                  exact gw_lret hx hb hr hlocks hK hP hD hS (Nat.le_of_ble_eq_true rfl) (Nat.le_of_ble_eq_true rfl) d_M_kept_95 ⟨⟨_, Or.inr ⟨k, hk, ek, hq_y, hq_z, rfl, by unfold lm_kv; rw [if_neg c11, if_neg c12]⟩, ⟨_, _, _, _, m0, mR, mE, mD, mO, mM, mP, mA, mB, mC, mL⟩⟩, hfr⟩
                refine lv_iload_n hx hb d_M_kept_81 rfl (lv_at hl 3 rfl) ?_
                refine lv_if_ne (tgt := 89) hx hb d_M_kept_82 (by decide) (fun c15 => ?_) (fun c15 => ?_)
                · refine lv_iload_n hx hb d_M_kept_89 rfl (lv_at hl 3 rfl) ?_
                  exact gx_i (y := lm_x1 z y) (by unfold lm_x1; rw [if_neg c15]) (mg_90 _ _ hP hD hS)
                · refine lv_iload_n hx hb d_M_kept_85 rfl (lv_at hl 2 rfl) ?_
                  refine lv_goto (tgt := 90) hx hb d_M_kept_86 (by decide) ?_
                  exact gx_i (y := lm_x1 z y) (by unfold lm_x1; rw [if_pos c15]) (mg_90 _ _ hP hD hS)
              refine lv_iload_n hx hb d_M_kept_67 rfl (lv_at hl 2 rfl) ?_
              refine lv_if_ne (tgt := 75) hx hb d_M_kept_68 (by decide) (fun c16 => ?_) (fun c16 => ?_)
              · refine lv_iload_n hx hb d_M_kept_75 rfl (lv_at hl 2 rfl) ?_
                exact gx_i (y := lm_x1 y z) (by unfold lm_x1; rw [if_neg c16]) (mg_76 _ _ hP hD hS)
              · refine lv_iload_n hx hb d_M_kept_71 rfl (lv_at hl 3 rfl) ?_
                refine lv_goto (tgt := 76) hx hb d_M_kept_72 (by decide) ?_
                exact gx_i (y := lm_x1 y z) (by unfold lm_x1; rw [if_pos c16]) (mg_76 _ _ hP hD hS)
            · refine lv_ldc2 (v := lr_E) hx hb hown (hts _ (hT _ wm_3_124)) d_M_kept_53 ?_
              exact gw_lret hx hb hr hlocks hK hP hD hS (Nat.le_of_ble_eq_true rfl) (Nat.le_of_ble_eq_true rfl) d_M_kept_56 ⟨⟨_, Or.inr ⟨k, hk, ek, hq_y, hq_z, rfl, by unfold lm_kv; rw [if_neg c11, if_pos c12]⟩, ⟨_, _, _, _, m0, mR, mE, mD, mO, mM, mP, mA, mB, mC, mL⟩⟩, hfr⟩
        · have c10 : ¬ (0 ≤ 0) := fun z => c10 ((nI_leI (a := 0) (b := 0) (by omega) (by omega)).mpr z)
          exfalso; omega

set_option maxHeartbeats 4000000 in
set_option maxRecDepth 100000 in
theorem c_M_meet {l : Launch} {D : va_G} {cJ cI cZ cS : ClassId} {ws : va_W} {sz : Nat} {b N nm : Nat} {A : Nat → Nat} {th : Int32} {R Pt nC : Nat → Int64} {Em nA nB : Nat → Int32} (hM : mS cJ cI cZ ws b A N th nm R Em Pt nA nB nC) (hN1 : 1 ≤ N) (hN5 : N ≤ 5) {CF : Nat → Nat → Nat → Int64} (hF1 : lm_F N R Em CF) {o : Option (Nat → Nat → Int64)} {x y z : Int32} (hc : ∀ k2 k3, k2 < 8 → k3 < 8 → y = nI k2 → z = nI k3 → Em k2 = 0 → Em k3 = 0 → lm_Cl N (lm_mnM (CF k2) (CF k3)) o) : Met l y_M_meet w_M_meet ({ frames := 4, cells := 0, slots := 0, locals := 71 } : Room) (gw_Pc D classes (gT cJ cI cZ cS) [.ref (A 0), .int x, .int y, .int z] ws sz) (va_Qi (fun r w => (∃ th' R' E', lm_meetO N R Em x y z o th' r R' E' ∧ mS cJ cI cZ w b A N th' nm R' E' Pt nA nB nC) ∧ gF b (b + 11) ws w) (gw_B D classes (gT cJ cI cZ cS) ws sz) (va_A ws sz)) 0 0 (va_A ws sz) := by
  refine gw_head (by decide) (Nat.le_of_ble_eq_true rfl) (fun p e s m below meth c hsz hx hb hr hlocks hml hown hnm hts hK hN hP hD hS hA ls hl => ?_)
  have hown : s.vm.findClass R_M = some m.cls := hown
  have hT : ∀ w ∈ wG, w ∈ Cond.code y_M_meet b_M_meet 5 (some .int) :: wG := gd_t _
  have hF : CallFix p m c b_M_meet 5 s ([.ref (A 0), .int x, .int y, .int z] : List Value).toArray (Cond.code y_M_meet b_M_meet 5 (some .int) :: wG) R_M := ⟨hx, hb, hml, hown, hts⟩
  have hl : lv_has ls 5 [(0, .ref (A 0)), (1, .int x), (2, .int y), (3, .int z)] := hl
  obtain ⟨D0, O, Md, Lf, m0, mR, mE, mD, mO, mM, mP, mA, mB, mC, mL⟩ := hM
  have hfr : gF b (b + 11) ws ws := gF.rf
  refine lv_aload_n hx hb d_M_meet_0 rfl (lv_at hl 0 rfl) ?_
  refine lv_iload_n hx hb d_M_meet_1 rfl (lv_at hl 1 rfl) ?_
  refine lv_iload_n hx hb d_M_meet_2 rfl (lv_at hl 2 rfl) ?_
  refine lv_iload_n hx hb d_M_meet_3 rfl (lv_at hl 3 rfl) ?_
  refine gw_ci (gc_M_110 (As := [.int x, .int y, .int z]) (rest := []) hF hT (c_M_areShapes m0 hN1 hN5) ⟨(Nat.le_of_ble_eq_true rfl), (Nat.le_of_ble_eq_true rfl)⟩ rfl rfl hK hN hP hD m0 rfl hl.1 rfl (Nat.le_of_ble_eq_true rfl) d_M_meet_4 ⟨(Nat.le_of_ble_eq_true rfl), (Nat.le_of_ble_eq_true rfl)⟩) hD hS hA (fun r1 w H locs hw hP hD hS => ?_)
  obtain ⟨⟨th2, m0, h_r1⟩, hf⟩ := hw
  have mR := hf.at mR (by omega)
  have mE := hf.at mE (by omega)
  have mD := hf.at mD (by omega)
  have mO := hf.at mO (by omega)
  have mM := hf.at mM (by omega)
  have mP := hf.at mP (by omega)
  have mA := hf.at mA (by omega)
  have mB := hf.at mB (by omega)
  have mC := hf.at mC (by omega)
  have mL := hf.at mL (by omega)
  have hfr := hfr.in hf (by omega) (by omega)
  refine lv_if_ne (tgt := 12) hx hb d_M_meet_7 (by decide) (fun c3 => ?_) (fun c3 => ?_)
  · obtain ⟨⟨hs1, hs2, hs3⟩, hth⟩ := h_r1.y c3
    subst hth
    obtain ⟨k1, hk1, ek1⟩ := hs1.k
    rw [ek1] at hl
    obtain ⟨k2, hk2, ek2⟩ := hs2.k
    rw [ek2] at hl
    obtain ⟨k3, hk3, ek3⟩ := hs3.k
    rw [ek3] at hl
    refine lv_aload_n hx hb d_M_meet_12 rfl (lv_at hl 0 rfl) ?_
    refine lv_iload_n hx hb d_M_meet_13 rfl (lv_at hl 2 rfl) ?_
    refine gw_ci (gc_M_98 (As := [.int (nI k2)]) (rest := []) hF hT (c_M_closeShape m0 mR mE mD hN1 hN5 (u := k2) (by omega) (hF1 k2 hk2)) ⟨(Nat.le_of_ble_eq_true rfl), (Nat.le_of_ble_eq_true rfl)⟩ rfl rfl hK hN hP hD m0 rfl hl.1 rfl (Nat.le_of_ble_eq_true rfl) d_M_meet_14 ⟨(Nat.le_of_ble_eq_true rfl), (Nat.le_of_ble_eq_true rfl)⟩) hD hS hA (fun r4 w H locs hw hP hD hS => ?_)
    obtain ⟨⟨F5, mD, h_r4⟩, hf⟩ := hw
    have m0 := hf.at m0 (by omega)
    have mR := hf.at mR (by omega)
    have mE := hf.at mE (by omega)
    have mO := hf.at mO (by omega)
    have mM := hf.at mM (by omega)
    have mP := hf.at mP (by omega)
    have mA := hf.at mA (by omega)
    have mB := hf.at mB (by omega)
    have mC := hf.at mC (by omega)
    have mL := hf.at mL (by omega)
    have hfr := hfr.in hf (by omega) (by omega)
    refine lv_if_ne (tgt := 27) hx hb d_M_meet_17 (by decide) (fun c6 => ?_) (fun c6 => ?_)
    · obtain ⟨hE14, _, hag14⟩ := h_r4.y c6
      refine lv_aload_n hx hb d_M_meet_27 rfl (lv_at hl 0 rfl) ?_
      refine lv_iconst (v := nI 1) hx hb d_M_meet_28 (by decide) ?_
      refine gw_cv (gc_M_118 (As := [.int (nI 1)]) (rest := []) hF hT (c_M_copyTable m0 mD mO hN1 hN5 (z := nI 1)) ⟨(Nat.le_of_ble_eq_true rfl), (Nat.le_of_ble_eq_true rfl)⟩ rfl rfl hK hN hP hD m0 rfl hl.1 rfl (Nat.le_of_ble_eq_true rfl) d_M_meet_29 ⟨(Nat.le_of_ble_eq_true rfl), (Nat.le_of_ble_eq_true rfl)⟩) hD hS hA (fun w H locs hw hP hD hS => ?_)
      obtain ⟨hw, hf⟩ := hw
      obtain ⟨mD, mO⟩ := lm_ct1 hw
      have m0 := hf.at m0 (by omega)
      have mR := hf.at mR (by omega)
      have mE := hf.at mE (by omega)
      have mM := hf.at mM (by omega)
      have mP := hf.at mP (by omega)
      have mA := hf.at mA (by omega)
      have mB := hf.at mB (by omega)
      have mC := hf.at mC (by omega)
      have mL := hf.at mL (by omega)
      have hfr := hfr.in hf (by omega) (by omega)
      refine lv_aload_n hx hb d_M_meet_32 rfl (lv_at hl 0 rfl) ?_
      refine lv_iload_n hx hb d_M_meet_33 rfl (lv_at hl 3 rfl) ?_
      refine gw_ci (gc_M_98 (As := [.int (nI k3)]) (rest := []) hF hT (c_M_closeShape m0 mR mE mD hN1 hN5 (u := k3) (by omega) (hF1 k3 hk3)) ⟨(Nat.le_of_ble_eq_true rfl), (Nat.le_of_ble_eq_true rfl)⟩ rfl rfl hK hN hP hD m0 rfl hl.1 rfl (Nat.le_of_ble_eq_true rfl) d_M_meet_34 ⟨(Nat.le_of_ble_eq_true rfl), (Nat.le_of_ble_eq_true rfl)⟩) hD hS hA (fun r7 w H locs hw hP hD hS => ?_)
      obtain ⟨⟨F8, mD, h_r7⟩, hf⟩ := hw
      have m0 := hf.at m0 (by omega)
      have mR := hf.at mR (by omega)
      have mE := hf.at mE (by omega)
      have mO := hf.at mO (by omega)
      have mM := hf.at mM (by omega)
      have mP := hf.at mP (by omega)
      have mA := hf.at mA (by omega)
      have mB := hf.at mB (by omega)
      have mC := hf.at mC (by omega)
      have mL := hf.at mL (by omega)
      have hfr := hfr.in hf (by omega) (by omega)
      refine lv_if_ne (tgt := 47) hx hb d_M_meet_37 (by decide) (fun c9 => ?_) (fun c9 => ?_)
      · obtain ⟨hE34, _, hag34⟩ := h_r7.y c9
        refine lv_iconst (v := nI 0) hx hb d_M_meet_47 (by decide) ?_
        refine lv_istore (lv' := [(4, .int (nI 0)), (0, .ref (A 0)), (1, .int (nI k1)), (2, .int (nI k2)), (3, .int (nI k3))]) hx hb d_M_meet_48 hl (by decide) rfl (fun ls hl => ?_)
        have lp_50 : ∀ (dd q : Nat), q + dd = 100 → ∀ (w : va_W) (H : Heap) (locs : List Loc) (ls : Array Slot), w[b]? = some (A 0, .inr (3, [.int (nI 0), .int (nI N), .ref (A 1), .ref (A 2), .ref (A 3), .ref (A 4), .ref (A 5), .ref (A 6), .int (nI nm), .ref (A 7), .ref (A 8), .ref (A 9), .ref (A 10)])) → w[b + 1]? = some (A 1, .inl (cJ, 800, .inr (.inl R))) → w[b + 2]? = some (A 2, .inl (cZ, 8, .inl Em)) → w[b + 3]? = some (A 3, .inl (cJ, 100, .inr (.inl (lr_it (fun k F => vp_updL F k (lm_mnn ((lm_cp F5 O) k) (F k))) q F8)))) → w[b + 4]? = some (A 4, .inl (cJ, 100, .inr (.inl (lm_cp F5 O)))) → w[b + 5]? = some (A 5, .inl (cJ, 100, .inr (.inl Md))) → w[b + 6]? = some (A 6, .inl (cJ, 6, .inr (.inl Pt))) → w[b + 7]? = some (A 7, .inl (cI, 60, .inl nA)) → w[b + 8]? = some (A 8, .inl (cI, 60, .inl nB)) → w[b + 9]? = some (A 9, .inl (cJ, 60, .inr (.inl nC))) → w[b + 10]? = some (A 10, .inl (cZ, 60, .inl Lf)) → gF b (b + 11) ws w → va_P D classes w H → va_D (va_A ws sz) w → va_S (va_A ws sz) s.heap H locs → lv_has ls 5 [(4, .int (nI q)), (0, .ref (A 0)), (1, .int (nI k1)), (2, .int (nI k2)), (3, .int (nI k3))] → W p l e ({ frames := 4, cells := 0, slots := 0, locals := 71 } : Room) s m ([.ref (A 0), .int x, .int y, .int z] : List Value).toArray below meth c H locs 0 0 (MQ below (va_Qi (fun r w => (∃ th' R' E', lm_meetO N R Em x y z o th' r R' E' ∧ mS cJ cI cZ w b A N th' nm R' E' Pt nA nB nC) ∧ gF b (b + 11) ws w) (gw_B D classes (gT cJ cI cZ cS) ws sz) (va_A ws sz)) ([.ref (A 0), .int x, .int y, .int z] : List Value).toArray s 0 0 (va_A ws sz)) (F0 m 50 ls []) := by
          intro dd
          induction dd with
          | zero =>
            intro q e_q w H locs ls m0 mR mE mD mO mM mP mA mB mC mL hfr hP hD hS hl
            have e0_q : 100 = q := by omega
            subst e0_q
            refine lv_iload hx hb d_M_meet_50 (lv_at hl 0 rfl) ?_
            refine lv_bipush (v := nI 100) hx hb d_M_meet_52 (by decide) ?_
            refine lv_icmp_ge (tgt := 105) hx hb d_M_meet_54 (by decide) (fun c10 => ?_) (fun c10 => ?_)
            · have c10 := (nI_leI (a := 100) (b := 100) (by omega) (by omega)).mp c10
              refine lv_aload_n hx hb d_M_meet_105 rfl (lv_at hl 1 rfl) ?_
              refine gw_ci (gc_M_69 (As := []) (rest := []) hF hT (c_M_close m0 mD hN1 hN5 (lm_ag_mn hN5 (lm_ag_cp hN5 hag14) hag34) (hc k2 k3 hk2 hk3 ek2 ek3 hE14 hE34)) ⟨(Nat.le_of_ble_eq_true rfl), (Nat.le_of_ble_eq_true rfl)⟩ rfl rfl hK hN hP hD m0 rfl hl.1 rfl (Nat.le_of_ble_eq_true rfl) d_M_meet_106 ⟨(Nat.le_of_ble_eq_true rfl), (Nat.le_of_ble_eq_true rfl)⟩) hD hS hA (fun r11 w H locs hw hP hD hS => ?_)
              obtain ⟨⟨F12, mD, h_r11⟩, hf⟩ := hw
              have m0 := hf.at m0 (by omega)
              have mR := hf.at mR (by omega)
              have mE := hf.at mE (by omega)
              have mO := hf.at mO (by omega)
              have mM := hf.at mM (by omega)
              have mP := hf.at mP (by omega)
              have mA := hf.at mA (by omega)
              have mB := hf.at mB (by omega)
              have mC := hf.at mC (by omega)
              have mL := hf.at mL (by omega)
              have hfr := hfr.in hf (by omega) (by omega)
              refine lv_istore (lv' := [(4, .int r11), (0, .ref (A 0)), (1, .int (nI k1)), (2, .int (nI k2)), (3, .int (nI k3))]) hx hb d_M_meet_109 hl (by decide) rfl (fun ls hl => ?_)
              refine lv_aload_n hx hb d_M_meet_111 rfl (lv_at hl 1 rfl) ?_
              refine lv_iload hx hb d_M_meet_112 (lv_at hl 0 rfl) ?_
              refine lv_if_eq (tgt := 128) hx hb d_M_meet_114 (by decide) (fun c13 => ?_) (fun c13 => ?_)
              · refine lv_iconst (v := nI 0) hx hb d_M_meet_128 (by decide) ?_
                refine gp_M_48 hF hT hK hP hD hS (fs1 := [.int (nI 0), .int (nI N), .ref (A 1), .ref (A 2), .ref (A 3), .ref (A 4), .ref (A 5), .ref (A 6), .int (nI nm), .ref (A 7), .ref (A 8), .ref (A 9), .ref (A 10)]) m0 rfl rfl (Nat.le_of_ble_eq_true rfl) rfl d_M_meet_129 (fun w H locs m0 hf hP hD hS => ?_)
                have mR := hf.at mR (by omega)
                have mE := hf.at mE (by omega)
                have mD := hf.at mD (by omega)
                have mO := hf.at mO (by omega)
                have mM := hf.at mM (by omega)
                have mP := hf.at mP (by omega)
                have mA := hf.at mA (by omega)
                have mB := hf.at mB (by omega)
                have mC := hf.at mC (by omega)
                have mL := hf.at mL (by omega)
                have hfr := hfr.in hf (by omega) (by omega)
                refine lv_aload_n hx hb d_M_meet_132 rfl (lv_at hl 1 rfl) ?_
                refine gf_M_48 hF hT hK hP m0 rfl d_M_meet_133 ?_
                refine lv_if_le (tgt := 143) hx hb d_M_meet_136 (by decide) (fun c14 => ?_) (fun c14 => ?_)
                · have c14 := (nI_leI (a := 0) (b := 0) (by omega) (by omega)).mp c14
                  refine lv_aload_n hx hb d_M_meet_143 rfl (lv_at hl 1 rfl) ?_
                  refine lv_iload_n hx hb d_M_meet_144 rfl (lv_at hl 2 rfl) ?_
                  refine lv_iload hx hb d_M_meet_145 (lv_at hl 0 rfl) ?_
                  refine gw_ci (gc_M_114 (As := [.int (nI k1), .int r11]) (rest := []) hF hT (c_M_keepClosed m0 mR mE mD hN1 hN5 (u := k1) (by omega) (z := r11)) ⟨(Nat.le_of_ble_eq_true rfl), (Nat.le_of_ble_eq_true rfl)⟩ rfl rfl hK hN hP hD m0 rfl hl.1 rfl (Nat.le_of_ble_eq_true rfl) d_M_meet_147 ⟨(Nat.le_of_ble_eq_true rfl), (Nat.le_of_ble_eq_true rfl)⟩) hD hS hA (fun r15 w H locs hw hP hD hS => ?_)
                  obtain ⟨hw, hf⟩ := hw
                  obtain ⟨Rr15, Er15, h_r15, mR, mE⟩ := lm_kcW hw
                  have m0 := hf.at m0 (by omega)
                  have mD := hf.at mD (by omega)
                  have mO := hf.at mO (by omega)
                  have mM := hf.at mM (by omega)
                  have mP := hf.at mP (by omega)
                  have mA := hf.at mA (by omega)
                  have mB := hf.at mB (by omega)
                  have mC := hf.at mC (by omega)
                  have mL := hf.at mL (by omega)
                  have hfr := hfr.in hf (by omega) (by omega)
                  exact gw_iret hx hb hr hlocks hK hP hD hS (Nat.le_of_ble_eq_true rfl) (Nat.le_of_ble_eq_true rfl) d_M_meet_150 ⟨⟨_, _, _, Or.inr ⟨k1, k2, k3, ⟨hk1, hk2, hk3, ek1, ek2, ek3⟩, Or.inr ⟨hE14, hE34, _, _, h_r11, Or.inr ⟨lm_onone (h_r11.n c13), rfl, h_r15⟩⟩⟩, ⟨_, _, _, _, m0, mR, mE, mD, mO, mM, mP, mA, mB, mC, mL⟩⟩, hfr⟩
                · have c14 : ¬ (0 ≤ 0) := fun z => c14 ((nI_leI (a := 0) (b := 0) (by omega) (by omega)).mpr z)
                  exfalso; omega
              · obtain ⟨_, Y, hoY, hag⟩ := h_r11.y c13
                refine lv_aload_n hx hb d_M_meet_117 rfl (lv_at hl 1 rfl) ?_
                refine gw_ci0 (gc_M_101 (As := []) (rest := [.ref (A 0)]) hF hT (c_M_isFar m0 mD hN1 hN5 hag) ⟨(Nat.le_of_ble_eq_true rfl), (Nat.le_of_ble_eq_true rfl)⟩ rfl rfl hK hN hP hD m0 rfl hl.1 rfl (Nat.le_of_ble_eq_true rfl) d_M_meet_118 ⟨(Nat.le_of_ble_eq_true rfl), (Nat.le_of_ble_eq_true rfl)⟩) hD hS hA (fun r16 H locs e_r16 hP hD hS => ?_)
                refine lv_if_eq (tgt := 128) hx hb d_M_meet_121 (by decide) (fun c17 => ?_) (fun c17 => ?_)
                · refine lv_iconst (v := nI 0) hx hb d_M_meet_128 (by decide) ?_
                  refine gp_M_48 hF hT hK hP hD hS (fs1 := [.int (nI 0), .int (nI N), .ref (A 1), .ref (A 2), .ref (A 3), .ref (A 4), .ref (A 5), .ref (A 6), .int (nI nm), .ref (A 7), .ref (A 8), .ref (A 9), .ref (A 10)]) m0 rfl rfl (Nat.le_of_ble_eq_true rfl) rfl d_M_meet_129 (fun w H locs m0 hf hP hD hS => ?_)
                  have mR := hf.at mR (by omega)
                  have mE := hf.at mE (by omega)
                  have mD := hf.at mD (by omega)
                  have mO := hf.at mO (by omega)
                  have mM := hf.at mM (by omega)
                  have mP := hf.at mP (by omega)
                  have mA := hf.at mA (by omega)
                  have mB := hf.at mB (by omega)
                  have mC := hf.at mC (by omega)
                  have mL := hf.at mL (by omega)
                  have hfr := hfr.in hf (by omega) (by omega)
                  refine lv_aload_n hx hb d_M_meet_132 rfl (lv_at hl 1 rfl) ?_
                  refine gf_M_48 hF hT hK hP m0 rfl d_M_meet_133 ?_
                  refine lv_if_le (tgt := 143) hx hb d_M_meet_136 (by decide) (fun c18 => ?_) (fun c18 => ?_)
                  · have c18 := (nI_leI (a := 0) (b := 0) (by omega) (by omega)).mp c18
                    refine lv_aload_n hx hb d_M_meet_143 rfl (lv_at hl 1 rfl) ?_
                    refine lv_iload_n hx hb d_M_meet_144 rfl (lv_at hl 2 rfl) ?_
                    refine lv_iload hx hb d_M_meet_145 (lv_at hl 0 rfl) ?_
                    refine gw_ci (gc_M_114 (As := [.int (nI k1), .int r11]) (rest := []) hF hT (c_M_keepClosed m0 mR mE mD hN1 hN5 (u := k1) (by omega) (z := r11)) ⟨(Nat.le_of_ble_eq_true rfl), (Nat.le_of_ble_eq_true rfl)⟩ rfl rfl hK hN hP hD m0 rfl hl.1 rfl (Nat.le_of_ble_eq_true rfl) d_M_meet_147 ⟨(Nat.le_of_ble_eq_true rfl), (Nat.le_of_ble_eq_true rfl)⟩) hD hS hA (fun r19 w H locs hw hP hD hS => ?_)
                    obtain ⟨hw, hf⟩ := hw
                    obtain ⟨Rr19, Er19, h_r19, mR, mE⟩ := lm_kcW hw
                    have m0 := hf.at m0 (by omega)
                    have mD := hf.at mD (by omega)
                    have mO := hf.at mO (by omega)
                    have mM := hf.at mM (by omega)
                    have mP := hf.at mP (by omega)
                    have mA := hf.at mA (by omega)
                    have mB := hf.at mB (by omega)
                    have mC := hf.at mC (by omega)
                    have mL := hf.at mL (by omega)
                    have hfr := hfr.in hf (by omega) (by omega)
                    exact gw_iret hx hb hr hlocks hK hP hD hS (Nat.le_of_ble_eq_true rfl) (Nat.le_of_ble_eq_true rfl) d_M_meet_150 ⟨⟨_, _, _, Or.inr ⟨k1, k2, k3, ⟨hk1, hk2, hk3, ek1, ek2, ek3⟩, Or.inr ⟨hE14, hE34, _, _, h_r11, Or.inr ⟨lm_oall hoY (gb_t e_r16 c17), rfl, h_r19⟩⟩⟩, ⟨_, _, _, _, m0, mR, mE, mD, mO, mM, mP, mA, mB, mC, mL⟩⟩, hfr⟩
                  · have c18 : ¬ (0 ≤ 0) := fun z => c18 ((nI_leI (a := 0) (b := 0) (by omega) (by omega)).mpr z)
                    exfalso; omega
                · refine lv_iconst (v := nI 2) hx hb d_M_meet_124 (by decide) ?_
                  refine lv_goto (tgt := 129) hx hb d_M_meet_125 (by decide) ?_
                  refine gp_M_48 hF hT hK hP hD hS (fs1 := [.int (nI 2), .int (nI N), .ref (A 1), .ref (A 2), .ref (A 3), .ref (A 4), .ref (A 5), .ref (A 6), .int (nI nm), .ref (A 7), .ref (A 8), .ref (A 9), .ref (A 10)]) m0 rfl rfl (Nat.le_of_ble_eq_true rfl) rfl d_M_meet_129 (fun w H locs m0 hf hP hD hS => ?_)
                  have mR := hf.at mR (by omega)
                  have mE := hf.at mE (by omega)
                  have mD := hf.at mD (by omega)
                  have mO := hf.at mO (by omega)
                  have mM := hf.at mM (by omega)
                  have mP := hf.at mP (by omega)
                  have mA := hf.at mA (by omega)
                  have mB := hf.at mB (by omega)
                  have mC := hf.at mC (by omega)
                  have mL := hf.at mL (by omega)
                  have hfr := hfr.in hf (by omega) (by omega)
                  refine lv_aload_n hx hb d_M_meet_132 rfl (lv_at hl 1 rfl) ?_
                  refine gf_M_48 hF hT hK hP m0 rfl d_M_meet_133 ?_
                  refine lv_if_le (tgt := 143) hx hb d_M_meet_136 (by decide) (fun c20 => ?_) (fun c20 => ?_)
                  · have c20 := (nI_leI (a := 2) (b := 0) (by omega) (by omega)).mp c20
                    exfalso; omega
                  · have c20 : ¬ (2 ≤ 0) := fun z => c20 ((nI_leI (a := 2) (b := 0) (by omega) (by omega)).mpr z)
                    refine lv_iconst (v := nI 0) hx hb d_M_meet_139 (by decide) ?_
                    refine lv_goto (tgt := 150) hx hb d_M_meet_140 (by decide) ?_
                    exact gw_iret hx hb hr hlocks hK hP hD hS (Nat.le_of_ble_eq_true rfl) (Nat.le_of_ble_eq_true rfl) d_M_meet_150 ⟨⟨_, _, _, Or.inr ⟨k1, k2, k3, ⟨hk1, hk2, hk3, ek1, ek2, ek3⟩, Or.inr ⟨hE14, hE34, _, _, h_r11, Or.inl ⟨c13, lm_oall hoY (gb_f e_r16 c17), rfl, rfl, rfl, rfl⟩⟩⟩, ⟨_, _, _, _, m0, mR, mE, mD, mO, mM, mP, mA, mB, mC, mL⟩⟩, hfr⟩
            · have c10 : ¬ (100 ≤ 100) := fun z => c10 ((nI_leI (a := 100) (b := 100) (by omega) (by omega)).mpr z)
              exfalso; omega
          | succ dd ih_50 =>
            intro q e_q w H locs ls m0 mR mE mD mO mM mP mA mB mC mL hfr hP hD hS hl
            refine lv_iload hx hb d_M_meet_50 (lv_at hl 0 rfl) ?_
            refine lv_bipush (v := nI 100) hx hb d_M_meet_52 (by decide) ?_
            refine lv_icmp_ge (tgt := 105) hx hb d_M_meet_54 (by decide) (fun c21 => ?_) (fun c21 => ?_)
            · have c21 := (nI_leI (a := 100) (b := q) (by omega) (by omega)).mp c21
              exfalso; omega
            · have c21 : ¬ (100 ≤ q) := fun z => c21 ((nI_leI (a := 100) (b := q) (by omega) (by omega)).mpr z)
              refine lv_aload_n hx hb d_M_meet_57 rfl (lv_at hl 1 rfl) ?_
              refine gf_M_17 hF hT hK hP m0 rfl d_M_meet_58 ?_
              refine lv_iload hx hb d_M_meet_61 (lv_at hl 0 rfl) ?_
              have mg_98 : ∀ (H : Heap) (locs : List Loc), va_P D classes w H → va_D (va_A ws sz) w → va_S (va_A ws sz) s.heap H locs → W p l e ({ frames := 4, cells := 0, slots := 0, locals := 71 } : Room) s m ([.ref (A 0), .int x, .int y, .int z] : List Value).toArray below meth c H locs 0 0 (MQ below (va_Qi (fun r w => (∃ th' R' E', lm_meetO N R Em x y z o th' r R' E' ∧ mS cJ cI cZ w b A N th' nm R' E' Pt nA nB nC) ∧ gF b (b + 11) ws w) (gw_B D classes (gT cJ cI cZ cS) ws sz) (va_A ws sz)) ([.ref (A 0), .int x, .int y, .int z] : List Value).toArray s 0 0 (va_A ws sz)) (F0 m 98 ls [.long (lm_mnn ((lm_cp F5 O) q) ((lr_it (fun k F => vp_updL F k (lm_mnn ((lm_cp F5 O) k) (F k))) q F8) q)), .int (nI q), .ref (A 3)]) := by
                intro H locs hP hD hS
                refine g_last (t0 := 0) (k := q) hx hb hK hP hD hS mD rfl (by omega) (by omega) d_M_meet_98 (fun w H locs mD hf hP hD hS => ?_)
                have m0 := hf.at m0 (by omega)
                have mR := hf.at mR (by omega)
                have mE := hf.at mE (by omega)
                have mO := hf.at mO (by omega)
                have mM := hf.at mM (by omega)
                have mP := hf.at mP (by omega)
                have mA := hf.at mA (by omega)
                have mB := hf.at mB (by omega)
                have mC := hf.at mC (by omega)
                have mL := hf.at mL (by omega)
                have hfr := hfr.in hf (by omega) (by omega)
                refine lv_iinc (v := nI (q + 1)) (lv' := [(4, .int (nI (q + 1))), (0, .ref (A 0)), (1, .int (nI k1)), (2, .int (nI k2)), (3, .int (nI k3))]) hx hb d_M_meet_99 hl (k := 0) rfl (gx_inc _) (by decide) rfl (fun ls hl => ?_)
                refine lv_goto (tgt := 50) hx hb d_M_meet_102 (by decide) ?_
                exact ih_50 (q + 1) (by omega) _ _ _ _ m0 mR mE mD mO mM mP mA mB mC mL hfr hP hD hS (lv_sub hl [0, 1, 2, 3, 4] rfl)
              refine lv_aload_n hx hb d_M_meet_63 rfl (lv_at hl 1 rfl) ?_
              refine gf_M_20 hF hT hK hP m0 rfl d_M_meet_64 ?_
              refine lv_iload hx hb d_M_meet_67 (lv_at hl 0 rfl) ?_
              refine g_lald (t0 := 0) (k := q) hx hb hK hP mO rfl (by omega) (by omega) d_M_meet_69 ?_
              refine lv_aload_n hx hb d_M_meet_70 rfl (lv_at hl 1 rfl) ?_
              refine gf_M_17 hF hT hK hP m0 rfl d_M_meet_71 ?_
              refine lv_iload hx hb d_M_meet_74 (lv_at hl 0 rfl) ?_
              refine g_lald (t0 := 0) (k := q) hx hb hK hP mD rfl (by omega) (by omega) d_M_meet_76 ?_
              refine gx_lge (tgt := 91) hx hb d_M_meet_77 d_M_meet_78 (by decide) (fun c22 => ?_) (fun c22 => ?_)
              · refine lv_aload_n hx hb d_M_meet_91 rfl (lv_at hl 1 rfl) ?_
                refine gf_M_17 hF hT hK hP m0 rfl d_M_meet_92 ?_
                refine lv_iload hx hb d_M_meet_95 (lv_at hl 0 rfl) ?_
                refine g_lald (t0 := 0) (k := q) hx hb hK hP mD rfl (by omega) (by omega) d_M_meet_97 ?_
                exact gx_l (y := lm_mnn ((lm_cp F5 O) q) ((lr_it (fun k F => vp_updL F k (lm_mnn ((lm_cp F5 O) k) (F k))) q F8) q)) (if_pos c22).symm (mg_98 _ _ hP hD hS)
              · refine lv_aload_n hx hb d_M_meet_81 rfl (lv_at hl 1 rfl) ?_
                refine gf_M_20 hF hT hK hP m0 rfl d_M_meet_82 ?_
                refine lv_iload hx hb d_M_meet_85 (lv_at hl 0 rfl) ?_
                refine g_lald (t0 := 0) (k := q) hx hb hK hP mO rfl (by omega) (by omega) d_M_meet_87 ?_
                refine lv_goto (tgt := 98) hx hb d_M_meet_88 (by decide) ?_
                exact gx_l (y := lm_mnn ((lm_cp F5 O) q) ((lr_it (fun k F => vp_updL F k (lm_mnn ((lm_cp F5 O) k) (F k))) q F8) q)) (if_neg c22).symm (mg_98 _ _ hP hD hS)
        exact lp_50 100 0 (by omega) _ _ _ _ m0 mR mE mD mO mM mP mA mB mC mL hfr hP hD hS (lv_sub hl [0, 1, 2, 3, 4] rfl)
      · have hE34 := h_r7.n c9
        refine lv_aload_n hx hb d_M_meet_40 rfl (lv_at hl 0 rfl) ?_
        refine lv_iload_n hx hb d_M_meet_41 rfl (lv_at hl 1 rfl) ?_
        refine lv_iconst (v := nI 0) hx hb d_M_meet_42 (by decide) ?_
        refine gw_ci (gc_M_114 (As := [.int (nI k1), .int (nI 0)]) (rest := []) hF hT (c_M_keepClosed m0 mR mE mD hN1 hN5 (u := k1) (by omega) (z := nI 0)) ⟨(Nat.le_of_ble_eq_true rfl), (Nat.le_of_ble_eq_true rfl)⟩ rfl rfl hK hN hP hD m0 rfl hl.1 rfl (Nat.le_of_ble_eq_true rfl) d_M_meet_43 ⟨(Nat.le_of_ble_eq_true rfl), (Nat.le_of_ble_eq_true rfl)⟩) hD hS hA (fun r23 w H locs hw hP hD hS => ?_)
        obtain ⟨hw, hf⟩ := hw
        obtain ⟨Rr23, Er23, h_r23, mR, mE⟩ := lm_kcW hw
        have m0 := hf.at m0 (by omega)
        have mD := hf.at mD (by omega)
        have mO := hf.at mO (by omega)
        have mM := hf.at mM (by omega)
        have mP := hf.at mP (by omega)
        have mA := hf.at mA (by omega)
        have mB := hf.at mB (by omega)
        have mC := hf.at mC (by omega)
        have mL := hf.at mL (by omega)
        have hfr := hfr.in hf (by omega) (by omega)
        exact gw_iret hx hb hr hlocks hK hP hD hS (Nat.le_of_ble_eq_true rfl) (Nat.le_of_ble_eq_true rfl) d_M_meet_46 ⟨⟨_, _, _, Or.inr ⟨k1, k2, k3, ⟨hk1, hk2, hk3, ek1, ek2, ek3⟩, Or.inl ⟨Or.inr hE34, rfl, _, h_r23⟩⟩, ⟨_, _, _, _, m0, mR, mE, mD, mO, mM, mP, mA, mB, mC, mL⟩⟩, hfr⟩
    · have hE14 := h_r4.n c6
      refine lv_aload_n hx hb d_M_meet_20 rfl (lv_at hl 0 rfl) ?_
      refine lv_iload_n hx hb d_M_meet_21 rfl (lv_at hl 1 rfl) ?_
      refine lv_iconst (v := nI 0) hx hb d_M_meet_22 (by decide) ?_
      refine gw_ci (gc_M_114 (As := [.int (nI k1), .int (nI 0)]) (rest := []) hF hT (c_M_keepClosed m0 mR mE mD hN1 hN5 (u := k1) (by omega) (z := nI 0)) ⟨(Nat.le_of_ble_eq_true rfl), (Nat.le_of_ble_eq_true rfl)⟩ rfl rfl hK hN hP hD m0 rfl hl.1 rfl (Nat.le_of_ble_eq_true rfl) d_M_meet_23 ⟨(Nat.le_of_ble_eq_true rfl), (Nat.le_of_ble_eq_true rfl)⟩) hD hS hA (fun r24 w H locs hw hP hD hS => ?_)
      obtain ⟨hw, hf⟩ := hw
      obtain ⟨Rr24, Er24, h_r24, mR, mE⟩ := lm_kcW hw
      have m0 := hf.at m0 (by omega)
      have mD := hf.at mD (by omega)
      have mO := hf.at mO (by omega)
      have mM := hf.at mM (by omega)
      have mP := hf.at mP (by omega)
      have mA := hf.at mA (by omega)
      have mB := hf.at mB (by omega)
      have mC := hf.at mC (by omega)
      have mL := hf.at mL (by omega)
      have hfr := hfr.in hf (by omega) (by omega)
      exact gw_iret hx hb hr hlocks hK hP hD hS (Nat.le_of_ble_eq_true rfl) (Nat.le_of_ble_eq_true rfl) d_M_meet_26 ⟨⟨_, _, _, Or.inr ⟨k1, k2, k3, ⟨hk1, hk2, hk3, ek1, ek2, ek3⟩, Or.inl ⟨Or.inl hE14, rfl, _, h_r24⟩⟩, ⟨_, _, _, _, m0, mR, mE, mD, mO, mM, mP, mA, mB, mC, mL⟩⟩, hfr⟩
  · obtain ⟨hno, hth⟩ := h_r1.n c3
    subst hth
    refine lv_iconst (v := nI 0) hx hb d_M_meet_10 (by decide) ?_
    exact gw_iret hx hb hr hlocks hK hP hD hS (Nat.le_of_ble_eq_true rfl) (Nat.le_of_ble_eq_true rfl) d_M_meet_11 ⟨⟨_, _, _, Or.inl ⟨hno, rfl, rfl, rfl⟩, ⟨_, _, _, _, m0, mR, mE, mD, mO, mM, mP, mA, mB, mC, mL⟩⟩, hfr⟩

set_option maxHeartbeats 4000000 in
set_option maxRecDepth 100000 in
theorem c_M_join {l : Launch} {D : va_G} {cJ cI cZ cS : ClassId} {ws : va_W} {sz : Nat} {b N nm : Nat} {A : Nat → Nat} {th : Int32} {R Pt nC : Nat → Int64} {Em nA nB : Nat → Int32} (hM : mS cJ cI cZ ws b A N th nm R Em Pt nA nB nC) (hN1 : 1 ≤ N) (hN5 : N ≤ 5) {CF : Nat → Nat → Nat → Int64} (hF1 : lm_F N R Em CF) {o : Option (Nat → Nat → Int64)} {x y z : Int32} (hc : ∀ k2 k3, k2 < 8 → k3 < 8 → y = nI k2 → z = nI k3 → (Em k2 = 0 ∨ Em k3 = 0) → lm_Cl N (lm_jX Em CF k2 k3) o) : Met l y_M_join w_M_join ({ frames := 4, cells := 0, slots := 0, locals := 71 } : Room) (gw_Pc D classes (gT cJ cI cZ cS) [.ref (A 0), .int x, .int y, .int z] ws sz) (va_Qi (fun r w => (∃ th' R' E', lm_joinO N R Em x y z o th' r R' E' ∧ mS cJ cI cZ w b A N th' nm R' E' Pt nA nB nC) ∧ gF b (b + 11) ws w) (gw_B D classes (gT cJ cI cZ cS) ws sz) (va_A ws sz)) 0 0 (va_A ws sz) := by
  refine gw_head (by decide) (Nat.le_of_ble_eq_true rfl) (fun p e s m below meth c hsz hx hb hr hlocks hml hown hnm hts hK hN hP hD hS hA ls hl => ?_)
  have hown : s.vm.findClass R_M = some m.cls := hown
  have hT : ∀ w ∈ wG, w ∈ Cond.code y_M_join b_M_join 7 (some .int) :: wG := gd_t _
  have hF : CallFix p m c b_M_join 7 s ([.ref (A 0), .int x, .int y, .int z] : List Value).toArray (Cond.code y_M_join b_M_join 7 (some .int) :: wG) R_M := ⟨hx, hb, hml, hown, hts⟩
  have hl : lv_has ls 7 [(0, .ref (A 0)), (1, .int x), (2, .int y), (3, .int z)] := hl
  obtain ⟨D0, O, Md, Lf, m0, mR, mE, mD, mO, mM, mP, mA, mB, mC, mL⟩ := hM
  have hfr : gF b (b + 11) ws ws := gF.rf
  refine lv_aload_n hx hb d_M_join_0 rfl (lv_at hl 0 rfl) ?_
  refine lv_iload_n hx hb d_M_join_1 rfl (lv_at hl 1 rfl) ?_
  refine lv_iload_n hx hb d_M_join_2 rfl (lv_at hl 2 rfl) ?_
  refine lv_iload_n hx hb d_M_join_3 rfl (lv_at hl 3 rfl) ?_
  refine gw_ci (gc_M_110 (As := [.int x, .int y, .int z]) (rest := []) hF hT (c_M_areShapes m0 hN1 hN5) ⟨(Nat.le_of_ble_eq_true rfl), (Nat.le_of_ble_eq_true rfl)⟩ rfl rfl hK hN hP hD m0 rfl hl.1 rfl (Nat.le_of_ble_eq_true rfl) d_M_join_4 ⟨(Nat.le_of_ble_eq_true rfl), (Nat.le_of_ble_eq_true rfl)⟩) hD hS hA (fun r1 w H locs hw hP hD hS => ?_)
  obtain ⟨⟨th2, m0, h_r1⟩, hf⟩ := hw
  have mR := hf.at mR (by omega)
  have mE := hf.at mE (by omega)
  have mD := hf.at mD (by omega)
  have mO := hf.at mO (by omega)
  have mM := hf.at mM (by omega)
  have mP := hf.at mP (by omega)
  have mA := hf.at mA (by omega)
  have mB := hf.at mB (by omega)
  have mC := hf.at mC (by omega)
  have mL := hf.at mL (by omega)
  have hfr := hfr.in hf (by omega) (by omega)
  refine lv_if_ne (tgt := 12) hx hb d_M_join_7 (by decide) (fun c3 => ?_) (fun c3 => ?_)
  · obtain ⟨⟨hs1, hs2, hs3⟩, hth⟩ := h_r1.y c3
    subst hth
    obtain ⟨k1, hk1, ek1⟩ := hs1.k
    rw [ek1] at hl
    obtain ⟨k2, hk2, ek2⟩ := hs2.k
    rw [ek2] at hl
    obtain ⟨k3, hk3, ek3⟩ := hs3.k
    rw [ek3] at hl
    refine lv_aload_n hx hb d_M_join_12 rfl (lv_at hl 0 rfl) ?_
    refine lv_iload_n hx hb d_M_join_13 rfl (lv_at hl 2 rfl) ?_
    refine gw_ci (gc_M_98 (As := [.int (nI k2)]) (rest := []) hF hT (c_M_closeShape m0 mR mE mD hN1 hN5 (u := k2) (by omega) (hF1 k2 hk2)) ⟨(Nat.le_of_ble_eq_true rfl), (Nat.le_of_ble_eq_true rfl)⟩ rfl rfl hK hN hP hD m0 rfl hl.1 rfl (Nat.le_of_ble_eq_true rfl) d_M_join_14 ⟨(Nat.le_of_ble_eq_true rfl), (Nat.le_of_ble_eq_true rfl)⟩) hD hS hA (fun r4 w H locs hw hP hD hS => ?_)
    obtain ⟨⟨F5, mD, h_r4⟩, hf⟩ := hw
    have m0 := hf.at m0 (by omega)
    have mR := hf.at mR (by omega)
    have mE := hf.at mE (by omega)
    have mO := hf.at mO (by omega)
    have mM := hf.at mM (by omega)
    have mP := hf.at mP (by omega)
    have mA := hf.at mA (by omega)
    have mB := hf.at mB (by omega)
    have mC := hf.at mC (by omega)
    have mL := hf.at mL (by omega)
    have hfr := hfr.in hf (by omega) (by omega)
    refine lv_istore (lv' := [(4, .int r4), (0, .ref (A 0)), (1, .int (nI k1)), (2, .int (nI k2)), (3, .int (nI k3))]) hx hb d_M_join_17 hl (by decide) rfl (fun ls hl => ?_)
    refine lv_aload_n hx hb d_M_join_19 rfl (lv_at hl 1 rfl) ?_
    refine lv_iconst (v := nI 1) hx hb d_M_join_20 (by decide) ?_
    refine gw_cv (gc_M_118 (As := [.int (nI 1)]) (rest := []) hF hT (c_M_copyTable m0 mD mO hN1 hN5 (z := nI 1)) ⟨(Nat.le_of_ble_eq_true rfl), (Nat.le_of_ble_eq_true rfl)⟩ rfl rfl hK hN hP hD m0 rfl hl.1 rfl (Nat.le_of_ble_eq_true rfl) d_M_join_21 ⟨(Nat.le_of_ble_eq_true rfl), (Nat.le_of_ble_eq_true rfl)⟩) hD hS hA (fun w H locs hw hP hD hS => ?_)
    obtain ⟨hw, hf⟩ := hw
    obtain ⟨mD, mO⟩ := lm_ct1 hw
    have m0 := hf.at m0 (by omega)
    have mR := hf.at mR (by omega)
    have mE := hf.at mE (by omega)
    have mM := hf.at mM (by omega)
    have mP := hf.at mP (by omega)
    have mA := hf.at mA (by omega)
    have mB := hf.at mB (by omega)
    have mC := hf.at mC (by omega)
    have mL := hf.at mL (by omega)
    have hfr := hfr.in hf (by omega) (by omega)
    refine lv_aload_n hx hb d_M_join_24 rfl (lv_at hl 1 rfl) ?_
    refine lv_iload_n hx hb d_M_join_25 rfl (lv_at hl 4 rfl) ?_
    refine gw_ci (gc_M_98 (As := [.int (nI k3)]) (rest := []) hF hT (c_M_closeShape m0 mR mE mD hN1 hN5 (u := k3) (by omega) (hF1 k3 hk3)) ⟨(Nat.le_of_ble_eq_true rfl), (Nat.le_of_ble_eq_true rfl)⟩ rfl rfl hK hN hP hD m0 rfl hl.1 rfl (Nat.le_of_ble_eq_true rfl) d_M_join_26 ⟨(Nat.le_of_ble_eq_true rfl), (Nat.le_of_ble_eq_true rfl)⟩) hD hS hA (fun r6 w H locs hw hP hD hS => ?_)
    obtain ⟨⟨F7, mD, h_r6⟩, hf⟩ := hw
    have m0 := hf.at m0 (by omega)
    have mR := hf.at mR (by omega)
    have mE := hf.at mE (by omega)
    have mO := hf.at mO (by omega)
    have mM := hf.at mM (by omega)
    have mP := hf.at mP (by omega)
    have mA := hf.at mA (by omega)
    have mB := hf.at mB (by omega)
    have mC := hf.at mC (by omega)
    have mL := hf.at mL (by omega)
    have hfr := hfr.in hf (by omega) (by omega)
    refine lv_istore (lv' := [(5, .int r6), (4, .int r4), (0, .ref (A 0)), (1, .int (nI k1)), (2, .int (nI k2)), (3, .int (nI k3))]) hx hb d_M_join_29 hl (by decide) rfl (fun ls hl => ?_)
    refine lv_iload hx hb d_M_join_31 (lv_at hl 0 rfl) ?_
    refine lv_if_ne (tgt := 41) hx hb d_M_join_33 (by decide) (fun c8 => ?_) (fun c8 => ?_)
    · obtain ⟨hE26, _, hag26⟩ := h_r6.y c8
      by_cases c9 : r4 = 0
      · have hE14 := h_r4.n c9
        refine lv_iconst (v := nI 0) hx hb d_M_join_41 (by decide) ?_
        refine lv_istore (lv' := [(6, .int (nI 0)), (5, .int r6), (4, .int r4), (0, .ref (A 0)), (1, .int (nI k1)), (2, .int (nI k2)), (3, .int (nI k3))]) hx hb d_M_join_42 hl (by decide) rfl (fun ls hl => ?_)
        refine lv_iload hx hb d_M_join_44 (lv_at hl 0 rfl) ?_
        refine lv_bipush (v := nI 100) hx hb d_M_join_46 (by decide) ?_
        refine lv_icmp_ge (tgt := 109) hx hb d_M_join_48 (by decide) (fun c10 => ?_) (fun c10 => ?_)
        · have c10 := (nI_leI (a := 100) (b := 0) (by omega) (by omega)).mp c10
          exfalso; omega
        · have c10 : ¬ (100 ≤ 0) := fun z => c10 ((nI_leI (a := 100) (b := 0) (by omega) (by omega)).mpr z)
          refine lv_iload hx hb d_M_join_51 (lv_at hl 2 rfl) ?_
          refine lv_if_eq (tgt := 109) hx hb d_M_join_53 (by decide) (fun c11 => ?_) (fun c11 => ?_)
          · refine lv_aload_n hx hb d_M_join_109 rfl (lv_at hl 3 rfl) ?_
            refine lv_iload_n hx hb d_M_join_110 rfl (lv_at hl 4 rfl) ?_
            refine lv_iload hx hb d_M_join_111 (lv_at hl 2 rfl) ?_
            refine lv_if_ne (tgt := 121) hx hb d_M_join_113 (by decide) (fun c12 => ?_) (fun c12 => ?_)
            · exact absurd c11 c12
            · refine lv_iload hx hb d_M_join_116 (lv_at hl 1 rfl) ?_
              refine lv_if_eq (tgt := 132) hx hb d_M_join_118 (by decide) (fun c13 => ?_) (fun c13 => ?_)
              · exact absurd c13 c8
              · refine lv_aload_n hx hb d_M_join_121 rfl (lv_at hl 3 rfl) ?_
                refine gw_ci (gc_M_69 (As := []) (rest := [.int (nI k1), .ref (A 0)]) hF hT (c_M_close m0 mD hN1 hN5 hag26 (by have h9 := hc k2 k3 hk2 hk3 ek2 ek3 (Or.inr hE26); unfold lm_jX at h9; rw [if_neg hE14] at h9; exact h9)) ⟨(Nat.le_of_ble_eq_true rfl), (Nat.le_of_ble_eq_true rfl)⟩ rfl rfl hK hN hP hD m0 rfl hl.1 rfl (Nat.le_of_ble_eq_true rfl) d_M_join_122 ⟨(Nat.le_of_ble_eq_true rfl), (Nat.le_of_ble_eq_true rfl)⟩) hD hS hA (fun r14 w H locs hw hP hD hS => ?_)
                obtain ⟨⟨F15, mD, h_r14⟩, hf⟩ := hw
                have m0 := hf.at m0 (by omega)
                have mR := hf.at mR (by omega)
                have mE := hf.at mE (by omega)
                have mO := hf.at mO (by omega)
                have mM := hf.at mM (by omega)
                have mP := hf.at mP (by omega)
                have mA := hf.at mA (by omega)
                have mB := hf.at mB (by omega)
                have mC := hf.at mC (by omega)
                have mL := hf.at mL (by omega)
                have hfr := hfr.in hf (by omega) (by omega)
                refine lv_if_eq (tgt := 132) hx hb d_M_join_125 (by decide) (fun c16 => ?_) (fun c16 => ?_)
                · refine lv_iconst (v := nI 0) hx hb d_M_join_132 (by decide) ?_
                  refine gw_ci (gc_M_114 (As := [.int (nI k1), .int (nI 0)]) (rest := []) hF hT (c_M_keepClosed m0 mR mE mD hN1 hN5 (u := k1) (by omega) (z := nI 0)) ⟨(Nat.le_of_ble_eq_true rfl), (Nat.le_of_ble_eq_true rfl)⟩ rfl rfl hK hN hP hD m0 rfl hl.1 rfl (Nat.le_of_ble_eq_true rfl) d_M_join_133 ⟨(Nat.le_of_ble_eq_true rfl), (Nat.le_of_ble_eq_true rfl)⟩) hD hS hA (fun r17 w H locs hw hP hD hS => ?_)
                  obtain ⟨hw, hf⟩ := hw
                  obtain ⟨Rr17, Er17, h_r17, mR, mE⟩ := lm_kcW hw
                  have m0 := hf.at m0 (by omega)
                  have mD := hf.at mD (by omega)
                  have mO := hf.at mO (by omega)
                  have mM := hf.at mM (by omega)
                  have mP := hf.at mP (by omega)
                  have mA := hf.at mA (by omega)
                  have mB := hf.at mB (by omega)
                  have mC := hf.at mC (by omega)
                  have mL := hf.at mL (by omega)
                  have hfr := hfr.in hf (by omega) (by omega)
                  exact gw_iret hx hb hr hlocks hK hP hD hS (Nat.le_of_ble_eq_true rfl) (Nat.le_of_ble_eq_true rfl) d_M_join_136 ⟨⟨_, _, _, Or.inr ⟨k1, k2, k3, ⟨hk1, hk2, hk3, ek1, ek2, ek3⟩, rfl, Or.inr ⟨Or.inr hE26, _, _, _, h_r14, Or.inl ⟨c16, rfl⟩, h_r17⟩⟩, ⟨_, _, _, _, m0, mR, mE, mD, mO, mM, mP, mA, mB, mC, mL⟩⟩, hfr⟩
                · refine lv_iconst (v := nI 1) hx hb d_M_join_128 (by decide) ?_
                  refine lv_goto (tgt := 133) hx hb d_M_join_129 (by decide) ?_
                  refine gw_ci (gc_M_114 (As := [.int (nI k1), .int (nI 1)]) (rest := []) hF hT (c_M_keepClosed m0 mR mE mD hN1 hN5 (u := k1) (by omega) (z := nI 1)) ⟨(Nat.le_of_ble_eq_true rfl), (Nat.le_of_ble_eq_true rfl)⟩ rfl rfl hK hN hP hD m0 rfl hl.1 rfl (Nat.le_of_ble_eq_true rfl) d_M_join_133 ⟨(Nat.le_of_ble_eq_true rfl), (Nat.le_of_ble_eq_true rfl)⟩) hD hS hA (fun r18 w H locs hw hP hD hS => ?_)
                  obtain ⟨hw, hf⟩ := hw
                  obtain ⟨Rr18, Er18, h_r18, mR, mE⟩ := lm_kcW hw
                  have m0 := hf.at m0 (by omega)
                  have mD := hf.at mD (by omega)
                  have mO := hf.at mO (by omega)
                  have mM := hf.at mM (by omega)
                  have mP := hf.at mP (by omega)
                  have mA := hf.at mA (by omega)
                  have mB := hf.at mB (by omega)
                  have mC := hf.at mC (by omega)
                  have mL := hf.at mL (by omega)
                  have hfr := hfr.in hf (by omega) (by omega)
                  exact gw_iret hx hb hr hlocks hK hP hD hS (Nat.le_of_ble_eq_true rfl) (Nat.le_of_ble_eq_true rfl) d_M_join_136 ⟨⟨_, _, _, Or.inr ⟨k1, k2, k3, ⟨hk1, hk2, hk3, ek1, ek2, ek3⟩, rfl, Or.inr ⟨Or.inr hE26, _, _, _, h_r14, Or.inr ⟨c16, rfl⟩, h_r18⟩⟩, ⟨_, _, _, _, m0, mR, mE, mD, mO, mM, mP, mA, mB, mC, mL⟩⟩, hfr⟩
          · exact absurd c9 c11
      · obtain ⟨hE14, _, hag14⟩ := h_r4.y c9
        refine lv_iconst (v := nI 0) hx hb d_M_join_41 (by decide) ?_
        refine lv_istore (lv' := [(6, .int (nI 0)), (5, .int r6), (4, .int r4), (0, .ref (A 0)), (1, .int (nI k1)), (2, .int (nI k2)), (3, .int (nI k3))]) hx hb d_M_join_42 hl (by decide) rfl (fun ls hl => ?_)
        have lp_44 : ∀ (dd q : Nat), q + dd = 100 → ∀ (w : va_W) (H : Heap) (locs : List Loc) (ls : Array Slot), w[b]? = some (A 0, .inr (3, [.int (nI 0), .int (nI N), .ref (A 1), .ref (A 2), .ref (A 3), .ref (A 4), .ref (A 5), .ref (A 6), .int (nI nm), .ref (A 7), .ref (A 8), .ref (A 9), .ref (A 10)])) → w[b + 1]? = some (A 1, .inl (cJ, 800, .inr (.inl R))) → w[b + 2]? = some (A 2, .inl (cZ, 8, .inl Em)) → w[b + 3]? = some (A 3, .inl (cJ, 100, .inr (.inl (lr_it (fun k F => vp_updL F k (lm_mxx ((lm_cp F5 O) k) (F k))) q F7)))) → w[b + 4]? = some (A 4, .inl (cJ, 100, .inr (.inl (lm_cp F5 O)))) → w[b + 5]? = some (A 5, .inl (cJ, 100, .inr (.inl Md))) → w[b + 6]? = some (A 6, .inl (cJ, 6, .inr (.inl Pt))) → w[b + 7]? = some (A 7, .inl (cI, 60, .inl nA)) → w[b + 8]? = some (A 8, .inl (cI, 60, .inl nB)) → w[b + 9]? = some (A 9, .inl (cJ, 60, .inr (.inl nC))) → w[b + 10]? = some (A 10, .inl (cZ, 60, .inl Lf)) → gF b (b + 11) ws w → va_P D classes w H → va_D (va_A ws sz) w → va_S (va_A ws sz) s.heap H locs → lv_has ls 7 [(6, .int (nI q)), (5, .int r6), (4, .int r4), (0, .ref (A 0)), (1, .int (nI k1)), (2, .int (nI k2)), (3, .int (nI k3))] → W p l e ({ frames := 4, cells := 0, slots := 0, locals := 71 } : Room) s m ([.ref (A 0), .int x, .int y, .int z] : List Value).toArray below meth c H locs 0 0 (MQ below (va_Qi (fun r w => (∃ th' R' E', lm_joinO N R Em x y z o th' r R' E' ∧ mS cJ cI cZ w b A N th' nm R' E' Pt nA nB nC) ∧ gF b (b + 11) ws w) (gw_B D classes (gT cJ cI cZ cS) ws sz) (va_A ws sz)) ([.ref (A 0), .int x, .int y, .int z] : List Value).toArray s 0 0 (va_A ws sz)) (F0 m 44 ls []) := by
          intro dd
          induction dd with
          | zero =>
            intro q e_q w H locs ls m0 mR mE mD mO mM mP mA mB mC mL hfr hP hD hS hl
            have e0_q : 100 = q := by omega
            subst e0_q
            refine lv_iload hx hb d_M_join_44 (lv_at hl 0 rfl) ?_
            refine lv_bipush (v := nI 100) hx hb d_M_join_46 (by decide) ?_
            refine lv_icmp_ge (tgt := 109) hx hb d_M_join_48 (by decide) (fun c19 => ?_) (fun c19 => ?_)
            · have c19 := (nI_leI (a := 100) (b := 100) (by omega) (by omega)).mp c19
              refine lv_aload_n hx hb d_M_join_109 rfl (lv_at hl 3 rfl) ?_
              refine lv_iload_n hx hb d_M_join_110 rfl (lv_at hl 4 rfl) ?_
              refine lv_iload hx hb d_M_join_111 (lv_at hl 2 rfl) ?_
              refine lv_if_ne (tgt := 121) hx hb d_M_join_113 (by decide) (fun c20 => ?_) (fun c20 => ?_)
              · refine lv_aload_n hx hb d_M_join_121 rfl (lv_at hl 3 rfl) ?_
                refine gw_ci (gc_M_69 (As := []) (rest := [.int (nI k1), .ref (A 0)]) hF hT (c_M_close m0 mD hN1 hN5 (lm_ag_mx hN5 (lm_ag_cp hN5 hag14) hag26) (by have h9 := hc k2 k3 hk2 hk3 ek2 ek3 (Or.inl hE14); unfold lm_jX at h9; rw [if_pos hE14, if_pos hE26] at h9; exact h9)) ⟨(Nat.le_of_ble_eq_true rfl), (Nat.le_of_ble_eq_true rfl)⟩ rfl rfl hK hN hP hD m0 rfl hl.1 rfl (Nat.le_of_ble_eq_true rfl) d_M_join_122 ⟨(Nat.le_of_ble_eq_true rfl), (Nat.le_of_ble_eq_true rfl)⟩) hD hS hA (fun r21 w H locs hw hP hD hS => ?_)
                obtain ⟨⟨F22, mD, h_r21⟩, hf⟩ := hw
                have m0 := hf.at m0 (by omega)
                have mR := hf.at mR (by omega)
                have mE := hf.at mE (by omega)
                have mO := hf.at mO (by omega)
                have mM := hf.at mM (by omega)
                have mP := hf.at mP (by omega)
                have mA := hf.at mA (by omega)
                have mB := hf.at mB (by omega)
                have mC := hf.at mC (by omega)
                have mL := hf.at mL (by omega)
                have hfr := hfr.in hf (by omega) (by omega)
                refine lv_if_eq (tgt := 132) hx hb d_M_join_125 (by decide) (fun c23 => ?_) (fun c23 => ?_)
                · refine lv_iconst (v := nI 0) hx hb d_M_join_132 (by decide) ?_
                  refine gw_ci (gc_M_114 (As := [.int (nI k1), .int (nI 0)]) (rest := []) hF hT (c_M_keepClosed m0 mR mE mD hN1 hN5 (u := k1) (by omega) (z := nI 0)) ⟨(Nat.le_of_ble_eq_true rfl), (Nat.le_of_ble_eq_true rfl)⟩ rfl rfl hK hN hP hD m0 rfl hl.1 rfl (Nat.le_of_ble_eq_true rfl) d_M_join_133 ⟨(Nat.le_of_ble_eq_true rfl), (Nat.le_of_ble_eq_true rfl)⟩) hD hS hA (fun r24 w H locs hw hP hD hS => ?_)
                  obtain ⟨hw, hf⟩ := hw
                  obtain ⟨Rr24, Er24, h_r24, mR, mE⟩ := lm_kcW hw
                  have m0 := hf.at m0 (by omega)
                  have mD := hf.at mD (by omega)
                  have mO := hf.at mO (by omega)
                  have mM := hf.at mM (by omega)
                  have mP := hf.at mP (by omega)
                  have mA := hf.at mA (by omega)
                  have mB := hf.at mB (by omega)
                  have mC := hf.at mC (by omega)
                  have mL := hf.at mL (by omega)
                  have hfr := hfr.in hf (by omega) (by omega)
                  exact gw_iret hx hb hr hlocks hK hP hD hS (Nat.le_of_ble_eq_true rfl) (Nat.le_of_ble_eq_true rfl) d_M_join_136 ⟨⟨_, _, _, Or.inr ⟨k1, k2, k3, ⟨hk1, hk2, hk3, ek1, ek2, ek3⟩, rfl, Or.inr ⟨Or.inl hE14, _, _, _, h_r21, Or.inl ⟨c23, rfl⟩, h_r24⟩⟩, ⟨_, _, _, _, m0, mR, mE, mD, mO, mM, mP, mA, mB, mC, mL⟩⟩, hfr⟩
                · refine lv_iconst (v := nI 1) hx hb d_M_join_128 (by decide) ?_
                  refine lv_goto (tgt := 133) hx hb d_M_join_129 (by decide) ?_
                  refine gw_ci (gc_M_114 (As := [.int (nI k1), .int (nI 1)]) (rest := []) hF hT (c_M_keepClosed m0 mR mE mD hN1 hN5 (u := k1) (by omega) (z := nI 1)) ⟨(Nat.le_of_ble_eq_true rfl), (Nat.le_of_ble_eq_true rfl)⟩ rfl rfl hK hN hP hD m0 rfl hl.1 rfl (Nat.le_of_ble_eq_true rfl) d_M_join_133 ⟨(Nat.le_of_ble_eq_true rfl), (Nat.le_of_ble_eq_true rfl)⟩) hD hS hA (fun r25 w H locs hw hP hD hS => ?_)
                  obtain ⟨hw, hf⟩ := hw
                  obtain ⟨Rr25, Er25, h_r25, mR, mE⟩ := lm_kcW hw
                  have m0 := hf.at m0 (by omega)
                  have mD := hf.at mD (by omega)
                  have mO := hf.at mO (by omega)
                  have mM := hf.at mM (by omega)
                  have mP := hf.at mP (by omega)
                  have mA := hf.at mA (by omega)
                  have mB := hf.at mB (by omega)
                  have mC := hf.at mC (by omega)
                  have mL := hf.at mL (by omega)
                  have hfr := hfr.in hf (by omega) (by omega)
                  exact gw_iret hx hb hr hlocks hK hP hD hS (Nat.le_of_ble_eq_true rfl) (Nat.le_of_ble_eq_true rfl) d_M_join_136 ⟨⟨_, _, _, Or.inr ⟨k1, k2, k3, ⟨hk1, hk2, hk3, ek1, ek2, ek3⟩, rfl, Or.inr ⟨Or.inl hE14, _, _, _, h_r21, Or.inr ⟨c23, rfl⟩, h_r25⟩⟩, ⟨_, _, _, _, m0, mR, mE, mD, mO, mM, mP, mA, mB, mC, mL⟩⟩, hfr⟩
              · exact absurd c20 c9
            · have c19 : ¬ (100 ≤ 100) := fun z => c19 ((nI_leI (a := 100) (b := 100) (by omega) (by omega)).mpr z)
              exfalso; omega
          | succ dd ih_44 =>
            intro q e_q w H locs ls m0 mR mE mD mO mM mP mA mB mC mL hfr hP hD hS hl
            refine lv_iload hx hb d_M_join_44 (lv_at hl 0 rfl) ?_
            refine lv_bipush (v := nI 100) hx hb d_M_join_46 (by decide) ?_
            refine lv_icmp_ge (tgt := 109) hx hb d_M_join_48 (by decide) (fun c26 => ?_) (fun c26 => ?_)
            · have c26 := (nI_leI (a := 100) (b := q) (by omega) (by omega)).mp c26
              exfalso; omega
            · have c26 : ¬ (100 ≤ q) := fun z => c26 ((nI_leI (a := 100) (b := q) (by omega) (by omega)).mpr z)
              refine lv_iload hx hb d_M_join_51 (lv_at hl 2 rfl) ?_
              refine lv_if_eq (tgt := 109) hx hb d_M_join_53 (by decide) (fun c27 => ?_) (fun c27 => ?_)
              · exact absurd c27 c9
              · refine lv_iload hx hb d_M_join_56 (lv_at hl 1 rfl) ?_
                refine lv_if_eq (tgt := 109) hx hb d_M_join_58 (by decide) (fun c28 => ?_) (fun c28 => ?_)
                · exact absurd c28 c8
                · refine lv_aload_n hx hb d_M_join_61 rfl (lv_at hl 3 rfl) ?_
                  refine gf_M_17 hF hT hK hP m0 rfl d_M_join_62 ?_
                  refine lv_iload hx hb d_M_join_65 (lv_at hl 0 rfl) ?_
                  have mg_102 : ∀ (H : Heap) (locs : List Loc), va_P D classes w H → va_D (va_A ws sz) w → va_S (va_A ws sz) s.heap H locs → W p l e ({ frames := 4, cells := 0, slots := 0, locals := 71 } : Room) s m ([.ref (A 0), .int x, .int y, .int z] : List Value).toArray below meth c H locs 0 0 (MQ below (va_Qi (fun r w => (∃ th' R' E', lm_joinO N R Em x y z o th' r R' E' ∧ mS cJ cI cZ w b A N th' nm R' E' Pt nA nB nC) ∧ gF b (b + 11) ws w) (gw_B D classes (gT cJ cI cZ cS) ws sz) (va_A ws sz)) ([.ref (A 0), .int x, .int y, .int z] : List Value).toArray s 0 0 (va_A ws sz)) (F0 m 102 ls [.long (lm_mxx ((lm_cp F5 O) q) ((lr_it (fun k F => vp_updL F k (lm_mxx ((lm_cp F5 O) k) (F k))) q F7) q)), .int (nI q), .ref (A 3)]) := by
                    intro H locs hP hD hS
                    refine g_last (t0 := 0) (k := q) hx hb hK hP hD hS mD rfl (by omega) (by omega) d_M_join_102 (fun w H locs mD hf hP hD hS => ?_)
                    have m0 := hf.at m0 (by omega)
                    have mR := hf.at mR (by omega)
                    have mE := hf.at mE (by omega)
                    have mO := hf.at mO (by omega)
                    have mM := hf.at mM (by omega)
                    have mP := hf.at mP (by omega)
                    have mA := hf.at mA (by omega)
                    have mB := hf.at mB (by omega)
                    have mC := hf.at mC (by omega)
                    have mL := hf.at mL (by omega)
                    have hfr := hfr.in hf (by omega) (by omega)
                    refine lv_iinc (v := nI (q + 1)) (lv' := [(6, .int (nI (q + 1))), (5, .int r6), (4, .int r4), (0, .ref (A 0)), (1, .int (nI k1)), (2, .int (nI k2)), (3, .int (nI k3))]) hx hb d_M_join_103 hl (k := 0) rfl (gx_inc _) (by decide) rfl (fun ls hl => ?_)
                    refine lv_goto (tgt := 44) hx hb d_M_join_106 (by decide) ?_
                    exact ih_44 (q + 1) (by omega) _ _ _ _ m0 mR mE mD mO mM mP mA mB mC mL hfr hP hD hS (lv_sub hl [0, 1, 2, 3, 4, 5, 6] rfl)
                  refine lv_aload_n hx hb d_M_join_67 rfl (lv_at hl 3 rfl) ?_
                  refine gf_M_20 hF hT hK hP m0 rfl d_M_join_68 ?_
                  refine lv_iload hx hb d_M_join_71 (lv_at hl 0 rfl) ?_
                  refine g_lald (t0 := 0) (k := q) hx hb hK hP mO rfl (by omega) (by omega) d_M_join_73 ?_
                  refine lv_aload_n hx hb d_M_join_74 rfl (lv_at hl 3 rfl) ?_
                  refine gf_M_17 hF hT hK hP m0 rfl d_M_join_75 ?_
                  refine lv_iload hx hb d_M_join_78 (lv_at hl 0 rfl) ?_
                  refine g_lald (t0 := 0) (k := q) hx hb hK hP mD rfl (by omega) (by omega) d_M_join_80 ?_
                  refine gx_lle (tgt := 95) hx hb d_M_join_81 d_M_join_82 (by decide) (fun c29 => ?_) (fun c29 => ?_)
                  · refine lv_aload_n hx hb d_M_join_95 rfl (lv_at hl 3 rfl) ?_
                    refine gf_M_17 hF hT hK hP m0 rfl d_M_join_96 ?_
                    refine lv_iload hx hb d_M_join_99 (lv_at hl 0 rfl) ?_
                    refine g_lald (t0 := 0) (k := q) hx hb hK hP mD rfl (by omega) (by omega) d_M_join_101 ?_
                    exact gx_l (y := lm_mxx ((lm_cp F5 O) q) ((lr_it (fun k F => vp_updL F k (lm_mxx ((lm_cp F5 O) k) (F k))) q F7) q)) (if_pos c29).symm (mg_102 _ _ hP hD hS)
                  · refine lv_aload_n hx hb d_M_join_85 rfl (lv_at hl 3 rfl) ?_
                    refine gf_M_20 hF hT hK hP m0 rfl d_M_join_86 ?_
                    refine lv_iload hx hb d_M_join_89 (lv_at hl 0 rfl) ?_
                    refine g_lald (t0 := 0) (k := q) hx hb hK hP mO rfl (by omega) (by omega) d_M_join_91 ?_
                    refine lv_goto (tgt := 102) hx hb d_M_join_92 (by decide) ?_
                    exact gx_l (y := lm_mxx ((lm_cp F5 O) q) ((lr_it (fun k F => vp_updL F k (lm_mxx ((lm_cp F5 O) k) (F k))) q F7) q)) (if_neg c29).symm (mg_102 _ _ hP hD hS)
        exact lp_44 100 0 (by omega) _ _ _ _ m0 mR mE mD mO mM mP mA mB mC mL hfr hP hD hS (lv_sub hl [0, 1, 2, 3, 4, 5, 6] rfl)
    · have hE26 := h_r6.n c8
      refine lv_aload_n hx hb d_M_join_36 rfl (lv_at hl 2 rfl) ?_
      refine lv_iconst (v := nI 0) hx hb d_M_join_37 (by decide) ?_
      refine gw_cv (gc_M_118 (As := [.int (nI 0)]) (rest := []) hF hT (c_M_copyTable m0 mD mO hN1 hN5 (z := nI 0)) ⟨(Nat.le_of_ble_eq_true rfl), (Nat.le_of_ble_eq_true rfl)⟩ rfl rfl hK hN hP hD m0 rfl hl.1 rfl (Nat.le_of_ble_eq_true rfl) d_M_join_38 ⟨(Nat.le_of_ble_eq_true rfl), (Nat.le_of_ble_eq_true rfl)⟩) hD hS hA (fun w H locs hw hP hD hS => ?_)
      obtain ⟨hw, hf⟩ := hw
      obtain ⟨mD, mO⟩ := lm_ct0 hw
      have m0 := hf.at m0 (by omega)
      have mR := hf.at mR (by omega)
      have mE := hf.at mE (by omega)
      have mM := hf.at mM (by omega)
      have mP := hf.at mP (by omega)
      have mA := hf.at mA (by omega)
      have mB := hf.at mB (by omega)
      have mC := hf.at mC (by omega)
      have mL := hf.at mL (by omega)
      have hfr := hfr.in hf (by omega) (by omega)
      by_cases c30 : r4 = 0
      · have hE14 := h_r4.n c30
        refine lv_iconst (v := nI 0) hx hb d_M_join_41 (by decide) ?_
        refine lv_istore (lv' := [(6, .int (nI 0)), (5, .int r6), (4, .int r4), (0, .ref (A 0)), (1, .int (nI k1)), (2, .int (nI k2)), (3, .int (nI k3))]) hx hb d_M_join_42 hl (by decide) rfl (fun ls hl => ?_)
        refine lv_iload hx hb d_M_join_44 (lv_at hl 0 rfl) ?_
        refine lv_bipush (v := nI 100) hx hb d_M_join_46 (by decide) ?_
        refine lv_icmp_ge (tgt := 109) hx hb d_M_join_48 (by decide) (fun c31 => ?_) (fun c31 => ?_)
        · have c31 := (nI_leI (a := 100) (b := 0) (by omega) (by omega)).mp c31
          exfalso; omega
        · have c31 : ¬ (100 ≤ 0) := fun z => c31 ((nI_leI (a := 100) (b := 0) (by omega) (by omega)).mpr z)
          refine lv_iload hx hb d_M_join_51 (lv_at hl 2 rfl) ?_
          refine lv_if_eq (tgt := 109) hx hb d_M_join_53 (by decide) (fun c32 => ?_) (fun c32 => ?_)
          · refine lv_aload_n hx hb d_M_join_109 rfl (lv_at hl 3 rfl) ?_
            refine lv_iload_n hx hb d_M_join_110 rfl (lv_at hl 4 rfl) ?_
            refine lv_iload hx hb d_M_join_111 (lv_at hl 2 rfl) ?_
            refine lv_if_ne (tgt := 121) hx hb d_M_join_113 (by decide) (fun c33 => ?_) (fun c33 => ?_)
            · exact absurd c32 c33
            · refine lv_iload hx hb d_M_join_116 (lv_at hl 1 rfl) ?_
              refine lv_if_eq (tgt := 132) hx hb d_M_join_118 (by decide) (fun c34 => ?_) (fun c34 => ?_)
              · refine lv_iconst (v := nI 0) hx hb d_M_join_132 (by decide) ?_
                refine gw_ci (gc_M_114 (As := [.int (nI k1), .int (nI 0)]) (rest := []) hF hT (c_M_keepClosed m0 mR mE mD hN1 hN5 (u := k1) (by omega) (z := nI 0)) ⟨(Nat.le_of_ble_eq_true rfl), (Nat.le_of_ble_eq_true rfl)⟩ rfl rfl hK hN hP hD m0 rfl hl.1 rfl (Nat.le_of_ble_eq_true rfl) d_M_join_133 ⟨(Nat.le_of_ble_eq_true rfl), (Nat.le_of_ble_eq_true rfl)⟩) hD hS hA (fun r35 w H locs hw hP hD hS => ?_)
                obtain ⟨hw, hf⟩ := hw
                obtain ⟨Rr35, Er35, h_r35, mR, mE⟩ := lm_kcW hw
                have m0 := hf.at m0 (by omega)
                have mD := hf.at mD (by omega)
                have mO := hf.at mO (by omega)
                have mM := hf.at mM (by omega)
                have mP := hf.at mP (by omega)
                have mA := hf.at mA (by omega)
                have mB := hf.at mB (by omega)
                have mC := hf.at mC (by omega)
                have mL := hf.at mL (by omega)
                have hfr := hfr.in hf (by omega) (by omega)
                exact gw_iret hx hb hr hlocks hK hP hD hS (Nat.le_of_ble_eq_true rfl) (Nat.le_of_ble_eq_true rfl) d_M_join_136 ⟨⟨_, _, _, Or.inr ⟨k1, k2, k3, ⟨hk1, hk2, hk3, ek1, ek2, ek3⟩, rfl, Or.inl ⟨hE14, hE26, _, h_r35⟩⟩, ⟨_, _, _, _, m0, mR, mE, mD, mO, mM, mP, mA, mB, mC, mL⟩⟩, hfr⟩
              · exact absurd c8 c34
          · exact absurd c30 c32
      · obtain ⟨hE14, _, hag14⟩ := h_r4.y c30
        refine lv_iconst (v := nI 0) hx hb d_M_join_41 (by decide) ?_
        refine lv_istore (lv' := [(6, .int (nI 0)), (5, .int r6), (4, .int r4), (0, .ref (A 0)), (1, .int (nI k1)), (2, .int (nI k2)), (3, .int (nI k3))]) hx hb d_M_join_42 hl (by decide) rfl (fun ls hl => ?_)
        refine lv_iload hx hb d_M_join_44 (lv_at hl 0 rfl) ?_
        refine lv_bipush (v := nI 100) hx hb d_M_join_46 (by decide) ?_
        refine lv_icmp_ge (tgt := 109) hx hb d_M_join_48 (by decide) (fun c36 => ?_) (fun c36 => ?_)
        · have c36 := (nI_leI (a := 100) (b := 0) (by omega) (by omega)).mp c36
          exfalso; omega
        · have c36 : ¬ (100 ≤ 0) := fun z => c36 ((nI_leI (a := 100) (b := 0) (by omega) (by omega)).mpr z)
          refine lv_iload hx hb d_M_join_51 (lv_at hl 2 rfl) ?_
          refine lv_if_eq (tgt := 109) hx hb d_M_join_53 (by decide) (fun c37 => ?_) (fun c37 => ?_)
          · exact absurd c37 c30
          · refine lv_iload hx hb d_M_join_56 (lv_at hl 1 rfl) ?_
            refine lv_if_eq (tgt := 109) hx hb d_M_join_58 (by decide) (fun c38 => ?_) (fun c38 => ?_)
            · refine lv_aload_n hx hb d_M_join_109 rfl (lv_at hl 3 rfl) ?_
              refine lv_iload_n hx hb d_M_join_110 rfl (lv_at hl 4 rfl) ?_
              refine lv_iload hx hb d_M_join_111 (lv_at hl 2 rfl) ?_
              refine lv_if_ne (tgt := 121) hx hb d_M_join_113 (by decide) (fun c39 => ?_) (fun c39 => ?_)
              · refine lv_aload_n hx hb d_M_join_121 rfl (lv_at hl 3 rfl) ?_
                refine gw_ci (gc_M_69 (As := []) (rest := [.int (nI k1), .ref (A 0)]) hF hT (c_M_close m0 mD hN1 hN5 (lm_ag_cp hN5 (lm_ag_cp hN5 hag14)) (by have h9 := hc k2 k3 hk2 hk3 ek2 ek3 (Or.inl hE14); unfold lm_jX at h9; rw [if_pos hE14, if_neg hE26] at h9; exact h9)) ⟨(Nat.le_of_ble_eq_true rfl), (Nat.le_of_ble_eq_true rfl)⟩ rfl rfl hK hN hP hD m0 rfl hl.1 rfl (Nat.le_of_ble_eq_true rfl) d_M_join_122 ⟨(Nat.le_of_ble_eq_true rfl), (Nat.le_of_ble_eq_true rfl)⟩) hD hS hA (fun r40 w H locs hw hP hD hS => ?_)
                obtain ⟨⟨F41, mD, h_r40⟩, hf⟩ := hw
                have m0 := hf.at m0 (by omega)
                have mR := hf.at mR (by omega)
                have mE := hf.at mE (by omega)
                have mO := hf.at mO (by omega)
                have mM := hf.at mM (by omega)
                have mP := hf.at mP (by omega)
                have mA := hf.at mA (by omega)
                have mB := hf.at mB (by omega)
                have mC := hf.at mC (by omega)
                have mL := hf.at mL (by omega)
                have hfr := hfr.in hf (by omega) (by omega)
                refine lv_if_eq (tgt := 132) hx hb d_M_join_125 (by decide) (fun c42 => ?_) (fun c42 => ?_)
                · refine lv_iconst (v := nI 0) hx hb d_M_join_132 (by decide) ?_
                  refine gw_ci (gc_M_114 (As := [.int (nI k1), .int (nI 0)]) (rest := []) hF hT (c_M_keepClosed m0 mR mE mD hN1 hN5 (u := k1) (by omega) (z := nI 0)) ⟨(Nat.le_of_ble_eq_true rfl), (Nat.le_of_ble_eq_true rfl)⟩ rfl rfl hK hN hP hD m0 rfl hl.1 rfl (Nat.le_of_ble_eq_true rfl) d_M_join_133 ⟨(Nat.le_of_ble_eq_true rfl), (Nat.le_of_ble_eq_true rfl)⟩) hD hS hA (fun r43 w H locs hw hP hD hS => ?_)
                  obtain ⟨hw, hf⟩ := hw
                  obtain ⟨Rr43, Er43, h_r43, mR, mE⟩ := lm_kcW hw
                  have m0 := hf.at m0 (by omega)
                  have mD := hf.at mD (by omega)
                  have mO := hf.at mO (by omega)
                  have mM := hf.at mM (by omega)
                  have mP := hf.at mP (by omega)
                  have mA := hf.at mA (by omega)
                  have mB := hf.at mB (by omega)
                  have mC := hf.at mC (by omega)
                  have mL := hf.at mL (by omega)
                  have hfr := hfr.in hf (by omega) (by omega)
                  exact gw_iret hx hb hr hlocks hK hP hD hS (Nat.le_of_ble_eq_true rfl) (Nat.le_of_ble_eq_true rfl) d_M_join_136 ⟨⟨_, _, _, Or.inr ⟨k1, k2, k3, ⟨hk1, hk2, hk3, ek1, ek2, ek3⟩, rfl, Or.inr ⟨Or.inl hE14, _, _, _, h_r40, Or.inl ⟨c42, rfl⟩, h_r43⟩⟩, ⟨_, _, _, _, m0, mR, mE, mD, mO, mM, mP, mA, mB, mC, mL⟩⟩, hfr⟩
                · refine lv_iconst (v := nI 1) hx hb d_M_join_128 (by decide) ?_
                  refine lv_goto (tgt := 133) hx hb d_M_join_129 (by decide) ?_
                  refine gw_ci (gc_M_114 (As := [.int (nI k1), .int (nI 1)]) (rest := []) hF hT (c_M_keepClosed m0 mR mE mD hN1 hN5 (u := k1) (by omega) (z := nI 1)) ⟨(Nat.le_of_ble_eq_true rfl), (Nat.le_of_ble_eq_true rfl)⟩ rfl rfl hK hN hP hD m0 rfl hl.1 rfl (Nat.le_of_ble_eq_true rfl) d_M_join_133 ⟨(Nat.le_of_ble_eq_true rfl), (Nat.le_of_ble_eq_true rfl)⟩) hD hS hA (fun r44 w H locs hw hP hD hS => ?_)
                  obtain ⟨hw, hf⟩ := hw
                  obtain ⟨Rr44, Er44, h_r44, mR, mE⟩ := lm_kcW hw
                  have m0 := hf.at m0 (by omega)
                  have mD := hf.at mD (by omega)
                  have mO := hf.at mO (by omega)
                  have mM := hf.at mM (by omega)
                  have mP := hf.at mP (by omega)
                  have mA := hf.at mA (by omega)
                  have mB := hf.at mB (by omega)
                  have mC := hf.at mC (by omega)
                  have mL := hf.at mL (by omega)
                  have hfr := hfr.in hf (by omega) (by omega)
                  exact gw_iret hx hb hr hlocks hK hP hD hS (Nat.le_of_ble_eq_true rfl) (Nat.le_of_ble_eq_true rfl) d_M_join_136 ⟨⟨_, _, _, Or.inr ⟨k1, k2, k3, ⟨hk1, hk2, hk3, ek1, ek2, ek3⟩, rfl, Or.inr ⟨Or.inl hE14, _, _, _, h_r40, Or.inr ⟨c42, rfl⟩, h_r44⟩⟩, ⟨_, _, _, _, m0, mR, mE, mD, mO, mM, mP, mA, mB, mC, mL⟩⟩, hfr⟩
              · exact absurd c39 c37
            · exact absurd c8 c38
  · obtain ⟨hno, hth⟩ := h_r1.n c3
    subst hth
    refine lv_iconst (v := nI 0) hx hb d_M_join_10 (by decide) ?_
    exact gw_iret hx hb hr hlocks hK hP hD hS (Nat.le_of_ble_eq_true rfl) (Nat.le_of_ble_eq_true rfl) d_M_join_11 ⟨⟨_, _, _, Or.inl ⟨hno, rfl, rfl, rfl⟩, ⟨_, _, _, _, m0, mR, mE, mD, mO, mM, mP, mA, mB, mC, mL⟩⟩, hfr⟩

set_option maxHeartbeats 4000000 in
set_option maxRecDepth 100000 in
theorem c_M_widen {l : Launch} {D : va_G} {cJ cI cZ cS : ClassId} {ws : va_W} {sz : Nat} {b N nm : Nat} {A : Nat → Nat} {th : Int32} {R Pt nC : Nat → Int64} {Em nA nB : Nat → Int32} (hM : mS cJ cI cZ ws b A N th nm R Em Pt nA nB nC) (hN1 : 1 ≤ N) (hN5 : N ≤ 5) (hE : ∀ k, k < 8 → Em k = 0 ∨ Em k = 1) {CF : Nat → Nat → Nat → Int64} (hF1 : lm_F N R Em CF) {Y : Nat → Nat → Int64} {x y z : Int32} (hc : ∀ k2 k3, k2 < 8 → k3 < 8 → y = nI k2 → z = nI k3 → Em k2 = 0 → Em k3 = 0 → lm_Cl N (fun i k => lm_db i k (lm_wM (CF k3) R k2 i k)) (some Y)) : Met l y_M_widen w_M_widen ({ frames := 4, cells := 0, slots := 0, locals := 74 } : Room) (gw_Pc D classes (gT cJ cI cZ cS) [.ref (A 0), .int x, .int y, .int z] ws sz) (va_Qi (fun r w => (∃ th' R' E', lm_widO N R Em CF x y z Y th' r R' E' ∧ mS cJ cI cZ w b A N th' nm R' E' Pt nA nB nC) ∧ gF b (b + 11) ws w) (gw_B D classes (gT cJ cI cZ cS) ws sz) (va_A ws sz)) 0 0 (va_A ws sz) := by
  refine gw_head (by decide) (Nat.le_of_ble_eq_true rfl) (fun p e s m below meth c hsz hx hb hr hlocks hml hown hnm hts hK hN hP hD hS hA ls hl => ?_)
  have hown : s.vm.findClass R_M = some m.cls := hown
  have hT : ∀ w ∈ wG, w ∈ Cond.code y_M_widen b_M_widen 11 (some .int) :: wG := gd_t _
  have hF : CallFix p m c b_M_widen 11 s ([.ref (A 0), .int x, .int y, .int z] : List Value).toArray (Cond.code y_M_widen b_M_widen 11 (some .int) :: wG) R_M := ⟨hx, hb, hml, hown, hts⟩
  have hl : lv_has ls 11 [(0, .ref (A 0)), (1, .int x), (2, .int y), (3, .int z)] := hl
  obtain ⟨D0, O, Md, Lf, m0, mR, mE, mD, mO, mM, mP, mA, mB, mC, mL⟩ := hM
  have hfr : gF b (b + 11) ws ws := gF.rf
  refine lv_aload_n hx hb d_M_widen_0 rfl (lv_at hl 0 rfl) ?_
  refine lv_iload_n hx hb d_M_widen_1 rfl (lv_at hl 1 rfl) ?_
  refine lv_iload_n hx hb d_M_widen_2 rfl (lv_at hl 2 rfl) ?_
  refine lv_iload_n hx hb d_M_widen_3 rfl (lv_at hl 3 rfl) ?_
  refine gw_ci (gc_M_110 (As := [.int x, .int y, .int z]) (rest := []) hF hT (c_M_areShapes m0 hN1 hN5) ⟨(Nat.le_of_ble_eq_true rfl), (Nat.le_of_ble_eq_true rfl)⟩ rfl rfl hK hN hP hD m0 rfl hl.1 rfl (Nat.le_of_ble_eq_true rfl) d_M_widen_4 ⟨(Nat.le_of_ble_eq_true rfl), (Nat.le_of_ble_eq_true rfl)⟩) hD hS hA (fun r1 w H locs hw hP hD hS => ?_)
  obtain ⟨⟨th2, m0, h_r1⟩, hf⟩ := hw
  have mR := hf.at mR (by omega)
  have mE := hf.at mE (by omega)
  have mD := hf.at mD (by omega)
  have mO := hf.at mO (by omega)
  have mM := hf.at mM (by omega)
  have mP := hf.at mP (by omega)
  have mA := hf.at mA (by omega)
  have mB := hf.at mB (by omega)
  have mC := hf.at mC (by omega)
  have mL := hf.at mL (by omega)
  have hfr := hfr.in hf (by omega) (by omega)
  refine lv_if_ne (tgt := 12) hx hb d_M_widen_7 (by decide) (fun c3 => ?_) (fun c3 => ?_)
  · obtain ⟨⟨hs1, hs2, hs3⟩, hth⟩ := h_r1.y c3
    subst hth
    obtain ⟨k1, hk1, ek1⟩ := hs1.k
    rw [ek1] at hl
    obtain ⟨k2, hk2, ek2⟩ := hs2.k
    rw [ek2] at hl
    obtain ⟨k3, hk3, ek3⟩ := hs3.k
    rw [ek3] at hl
    refine lv_aload_n hx hb d_M_widen_12 rfl (lv_at hl 0 rfl) ?_
    refine gf_M_13 hF hT hK hP m0 rfl d_M_widen_13 ?_
    refine lv_iload_n hx hb d_M_widen_16 rfl (lv_at hl 2 rfl) ?_
    refine g_zald (t0 := 2) (k := k2) hx hb hK hP mE rfl (by omega) (by omega) d_M_widen_17 ?_
    refine lv_if_ne (tgt := 30) hx hb d_M_widen_18 (by decide) (fun c4 => ?_) (fun c4 => ?_)
    · refine lv_aload_n hx hb d_M_widen_30 rfl (lv_at hl 0 rfl) ?_
      refine lv_iload_n hx hb d_M_widen_31 rfl (lv_at hl 1 rfl) ?_
      refine lv_aload_n hx hb d_M_widen_32 rfl (lv_at hl 0 rfl) ?_
      refine gf_M_13 hF hT hK hP m0 rfl d_M_widen_33 ?_
      refine lv_iload_n hx hb d_M_widen_36 rfl (lv_at hl 2 rfl) ?_
      refine g_zald (t0 := 2) (k := k2) hx hb hK hP mE rfl (by omega) (by omega) d_M_widen_37 ?_
      refine lv_if_eq (tgt := 45) hx hb d_M_widen_38 (by decide) (fun c5 => ?_) (fun c5 => ?_)
      · exact absurd c5 c4
      · refine lv_iload_n hx hb d_M_widen_41 rfl (lv_at hl 3 rfl) ?_
        refine lv_goto (tgt := 46) hx hb d_M_widen_42 (by decide) ?_
        refine gw_cv (gc_M_122 (As := [.int (nI k1), .int (nI k3)]) (rest := []) hF hT (c_M_copyRows m0 mR mE hN1 hN5 (t := k1) (u := k3) (by omega) (by omega) hE) ⟨(Nat.le_of_ble_eq_true rfl), (Nat.le_of_ble_eq_true rfl)⟩ rfl rfl hK hN hP hD m0 rfl hl.1 rfl (Nat.le_of_ble_eq_true rfl) d_M_widen_46 ⟨(Nat.le_of_ble_eq_true rfl), (Nat.le_of_ble_eq_true rfl)⟩) hD hS hA (fun w H locs hw hP hD hS => ?_)
        obtain ⟨⟨mR, mE⟩, hf⟩ := hw
        have m0 := hf.at m0 (by omega)
        have mD := hf.at mD (by omega)
        have mO := hf.at mO (by omega)
        have mM := hf.at mM (by omega)
        have mP := hf.at mP (by omega)
        have mA := hf.at mA (by omega)
        have mB := hf.at mB (by omega)
        have mC := hf.at mC (by omega)
        have mL := hf.at mL (by omega)
        have hfr := hfr.in hf (by omega) (by omega)
        refine lv_aload_n hx hb d_M_widen_49 rfl (lv_at hl 0 rfl) ?_
        refine gf_M_13 hF hT hK hP m0 rfl d_M_widen_50 ?_
        refine lv_iload_n hx hb d_M_widen_53 rfl (lv_at hl 1 rfl) ?_
        refine g_zald (t0 := 2) (k := k1) hx hb hK hP mE rfl (by omega) (by omega) d_M_widen_54 ?_
        refine lv_if_eq (tgt := 62) hx hb d_M_widen_55 (by decide) (fun c6 => ?_) (fun c6 => ?_)
        · refine lv_iconst (v := nI 1) hx hb d_M_widen_62 (by decide) ?_
          exact gw_iret hx hb hr hlocks hK hP hD hS (Nat.le_of_ble_eq_true rfl) (Nat.le_of_ble_eq_true rfl) d_M_widen_63 ⟨⟨_, _, _, Or.inr ⟨k1, k2, k3, ⟨hk1, hk2, hk3, ek1, ek2, ek3⟩, Or.inl ⟨Or.inl c4, rfl, _, Or.inl ⟨c4, rfl⟩, rfl, rfl, Or.inl ⟨c6, rfl⟩⟩⟩, ⟨_, _, _, _, m0, mR, mE, mD, mO, mM, mP, mA, mB, mC, mL⟩⟩, hfr⟩
        · refine lv_iconst (v := nI 0) hx hb d_M_widen_58 (by decide) ?_
          refine lv_goto (tgt := 63) hx hb d_M_widen_59 (by decide) ?_
          exact gw_iret hx hb hr hlocks hK hP hD hS (Nat.le_of_ble_eq_true rfl) (Nat.le_of_ble_eq_true rfl) d_M_widen_63 ⟨⟨_, _, _, Or.inr ⟨k1, k2, k3, ⟨hk1, hk2, hk3, ek1, ek2, ek3⟩, Or.inl ⟨Or.inl c4, rfl, _, Or.inl ⟨c4, rfl⟩, rfl, rfl, Or.inr ⟨c6, rfl⟩⟩⟩, ⟨_, _, _, _, m0, mR, mE, mD, mO, mM, mP, mA, mB, mC, mL⟩⟩, hfr⟩
    · refine lv_aload_n hx hb d_M_widen_21 rfl (lv_at hl 0 rfl) ?_
      refine gf_M_13 hF hT hK hP m0 rfl d_M_widen_22 ?_
      refine lv_iload_n hx hb d_M_widen_25 rfl (lv_at hl 3 rfl) ?_
      refine g_zald (t0 := 2) (k := k3) hx hb hK hP mE rfl (by omega) (by omega) d_M_widen_26 ?_
      refine lv_if_eq (tgt := 64) hx hb d_M_widen_27 (by decide) (fun c7 => ?_) (fun c7 => ?_)
      · refine lv_aload_n hx hb d_M_widen_64 rfl (lv_at hl 0 rfl) ?_
        refine lv_iload_n hx hb d_M_widen_65 rfl (lv_at hl 3 rfl) ?_
        refine gw_ci (gc_M_98 (As := [.int (nI k3)]) (rest := []) hF hT (c_M_closeShape m0 mR mE mD hN1 hN5 (u := k3) (by omega) (hF1 k3 hk3)) ⟨(Nat.le_of_ble_eq_true rfl), (Nat.le_of_ble_eq_true rfl)⟩ rfl rfl hK hN hP hD m0 rfl hl.1 rfl (Nat.le_of_ble_eq_true rfl) d_M_widen_66 ⟨(Nat.le_of_ble_eq_true rfl), (Nat.le_of_ble_eq_true rfl)⟩) hD hS hA (fun r8 w H locs hw hP hD hS => ?_)
        obtain ⟨⟨F9, mD, h_r8⟩, hf⟩ := hw
        have m0 := hf.at m0 (by omega)
        have mR := hf.at mR (by omega)
        have mE := hf.at mE (by omega)
        have mO := hf.at mO (by omega)
        have mM := hf.at mM (by omega)
        have mP := hf.at mP (by omega)
        have mA := hf.at mA (by omega)
        have mB := hf.at mB (by omega)
        have mC := hf.at mC (by omega)
        have mL := hf.at mL (by omega)
        have hfr := hfr.in hf (by omega) (by omega)
        obtain ⟨_, hag66⟩ := h_r8.e c7
        refine lv_istore (lv' := [(4, .int r8), (0, .ref (A 0)), (1, .int (nI k1)), (2, .int (nI k2)), (3, .int (nI k3))]) hx hb d_M_widen_69 hl (by decide) rfl (fun ls hl => ?_)
        refine lv_iconst (v := nI 0) hx hb d_M_widen_71 (by decide) ?_
        refine lv_istore (lv' := [(5, .int (nI 0)), (4, .int r8), (0, .ref (A 0)), (1, .int (nI k1)), (2, .int (nI k2)), (3, .int (nI k3))]) hx hb d_M_widen_72 hl (by decide) rfl (fun ls hl => ?_)
        have lp_74 : ∀ (dd i : Nat), i + dd = 10 → ∀ (w : va_W) (H : Heap) (locs : List Loc) (ls : Array Slot), w[b]? = some (A 0, .inr (3, [.int (nI 0), .int (nI N), .ref (A 1), .ref (A 2), .ref (A 3), .ref (A 4), .ref (A 5), .ref (A 6), .int (nI nm), .ref (A 7), .ref (A 8), .ref (A 9), .ref (A 10)])) → w[b + 1]? = some (A 1, .inl (cJ, 800, .inr (.inl R))) → w[b + 2]? = some (A 2, .inl (cZ, 8, .inl Em)) → w[b + 3]? = some (A 3, .inl (cJ, 100, .inr (.inl F9))) → w[b + 4]? = some (A 4, .inl (cJ, 100, .inr (.inl O))) → w[b + 5]? = some (A 5, .inl (cJ, 100, .inr (.inl (lm_wd F9 R k2 i Md)))) → w[b + 6]? = some (A 6, .inl (cJ, 6, .inr (.inl Pt))) → w[b + 7]? = some (A 7, .inl (cI, 60, .inl nA)) → w[b + 8]? = some (A 8, .inl (cI, 60, .inl nB)) → w[b + 9]? = some (A 9, .inl (cJ, 60, .inr (.inl nC))) → w[b + 10]? = some (A 10, .inl (cZ, 60, .inl Lf)) → gF b (b + 11) ws w → va_P D classes w H → va_D (va_A ws sz) w → va_S (va_A ws sz) s.heap H locs → lv_has ls 11 [(5, .int (nI i)), (4, .int r8), (0, .ref (A 0)), (1, .int (nI k1)), (2, .int (nI k2)), (3, .int (nI k3))] → W p l e ({ frames := 4, cells := 0, slots := 0, locals := 74 } : Room) s m ([.ref (A 0), .int x, .int y, .int z] : List Value).toArray below meth c H locs 0 0 (MQ below (va_Qi (fun r w => (∃ th' R' E', lm_widO N R Em CF x y z Y th' r R' E' ∧ mS cJ cI cZ w b A N th' nm R' E' Pt nA nB nC) ∧ gF b (b + 11) ws w) (gw_B D classes (gT cJ cI cZ cS) ws sz) (va_A ws sz)) ([.ref (A 0), .int x, .int y, .int z] : List Value).toArray s 0 0 (va_A ws sz)) (F0 m 74 ls []) := by
          intro dd
          induction dd with
          | zero =>
            intro i e_i w H locs ls m0 mR mE mD mO mM mP mA mB mC mL hfr hP hD hS hl
            have e0_i : 10 = i := by omega
            subst e0_i
            refine lv_iload hx hb d_M_widen_74 (lv_at hl 0 rfl) ?_
            refine lv_bipush (v := nI 10) hx hb d_M_widen_76 (by decide) ?_
            refine lv_icmp_ge (tgt := 192) hx hb d_M_widen_78 (by decide) (fun c10 => ?_) (fun c10 => ?_)
            · have c10 := (nI_leI (a := 10) (b := 10) (by omega) (by omega)).mp c10
              refine lv_aload_n hx hb d_M_widen_192 rfl (lv_at hl 2 rfl) ?_
              refine gw_ci (gc_M_126 (As := []) (rest := []) hF hT (c_M_closeMade m0 mD mM hN1 hN5 (lm_ag_wd hN5 hag66) (hc k2 k3 hk2 hk3 ek2 ek3 c4 c7)) ⟨(Nat.le_of_ble_eq_true rfl), (Nat.le_of_ble_eq_true rfl)⟩ rfl rfl hK hN hP hD m0 rfl hl.1 rfl (Nat.le_of_ble_eq_true rfl) d_M_widen_193 ⟨(Nat.le_of_ble_eq_true rfl), (Nat.le_of_ble_eq_true rfl)⟩) hD hS hA (fun r11 w H locs hw hP hD hS => ?_)
              obtain ⟨⟨F12, mD, h_r11⟩, hf⟩ := hw
              have m0 := hf.at m0 (by omega)
              have mR := hf.at mR (by omega)
              have mE := hf.at mE (by omega)
              have mO := hf.at mO (by omega)
              have mM := hf.at mM (by omega)
              have mP := hf.at mP (by omega)
              have mA := hf.at mA (by omega)
              have mB := hf.at mB (by omega)
              have mC := hf.at mC (by omega)
              have mL := hf.at mL (by omega)
              have hfr := hfr.in hf (by omega) (by omega)
              refine lv_istore (lv' := [(4, .int r11), (5, .int (nI 10)), (0, .ref (A 0)), (1, .int (nI k1)), (2, .int (nI k2)), (3, .int (nI k3))]) hx hb d_M_widen_196 hl (by decide) rfl (fun ls hl => ?_)
              refine lv_aload_n hx hb d_M_widen_198 rfl (lv_at hl 2 rfl) ?_
              refine gw_ci0 (gc_M_101 (As := []) (rest := []) hF hT (c_M_isFar m0 mD hN1 hN5 h_r11.s.2) ⟨(Nat.le_of_ble_eq_true rfl), (Nat.le_of_ble_eq_true rfl)⟩ rfl rfl hK hN hP hD m0 rfl hl.1 rfl (Nat.le_of_ble_eq_true rfl) d_M_widen_199 ⟨(Nat.le_of_ble_eq_true rfl), (Nat.le_of_ble_eq_true rfl)⟩) hD hS hA (fun r13 H locs e_r13 hP hD hS => ?_)
              refine lv_if_eq (tgt := 212) hx hb d_M_widen_202 (by decide) (fun c14 => ?_) (fun c14 => ?_)
              · refine lv_aload_n hx hb d_M_widen_212 rfl (lv_at hl 2 rfl) ?_
                refine lv_iload_n hx hb d_M_widen_213 rfl (lv_at hl 3 rfl) ?_
                refine gw_cv (gc_M_129 (As := [.int (nI k1)]) (rest := []) hF hT (c_M_keepMade m0 mR mE mM hN1 hN5 (u := k1) (by omega)) ⟨(Nat.le_of_ble_eq_true rfl), (Nat.le_of_ble_eq_true rfl)⟩ rfl rfl hK hN hP hD m0 rfl hl.1 rfl (Nat.le_of_ble_eq_true rfl) d_M_widen_214 ⟨(Nat.le_of_ble_eq_true rfl), (Nat.le_of_ble_eq_true rfl)⟩) hD hS hA (fun w H locs hw hP hD hS => ?_)
                obtain ⟨⟨mR, mE⟩, hf⟩ := hw
                have m0 := hf.at m0 (by omega)
                have mD := hf.at mD (by omega)
                have mO := hf.at mO (by omega)
                have mM := hf.at mM (by omega)
                have mP := hf.at mP (by omega)
                have mA := hf.at mA (by omega)
                have mB := hf.at mB (by omega)
                have mC := hf.at mC (by omega)
                have mL := hf.at mL (by omega)
                have hfr := hfr.in hf (by omega) (by omega)
                refine lv_iconst (v := nI 1) hx hb d_M_widen_217 (by decide) ?_
                exact gw_iret hx hb hr hlocks hK hP hD hS (Nat.le_of_ble_eq_true rfl) (Nat.le_of_ble_eq_true rfl) d_M_widen_218 ⟨⟨_, _, _, Or.inr ⟨k1, k2, k3, ⟨hk1, hk2, hk3, ek1, ek2, ek3⟩, Or.inr ⟨c4, c7, Or.inr ⟨gb_t e_r13 c14, rfl, rfl, _, lm_ag_wd hN5 hag66, rfl, rfl⟩⟩⟩, ⟨_, _, _, _, m0, mR, mE, mD, mO, mM, mP, mA, mB, mC, mL⟩⟩, hfr⟩
              · refine lv_aload_n hx hb d_M_widen_205 rfl (lv_at hl 2 rfl) ?_
                refine lv_iconst (v := nI 2) hx hb d_M_widen_206 (by decide) ?_
                refine gp_M_48 hF hT hK hP hD hS (fs1 := [.int (nI 2), .int (nI N), .ref (A 1), .ref (A 2), .ref (A 3), .ref (A 4), .ref (A 5), .ref (A 6), .int (nI nm), .ref (A 7), .ref (A 8), .ref (A 9), .ref (A 10)]) m0 rfl rfl (Nat.le_of_ble_eq_true rfl) rfl d_M_widen_207 (fun w H locs m0 hf hP hD hS => ?_)
                have mR := hf.at mR (by omega)
                have mE := hf.at mE (by omega)
                have mD := hf.at mD (by omega)
                have mO := hf.at mO (by omega)
                have mM := hf.at mM (by omega)
                have mP := hf.at mP (by omega)
                have mA := hf.at mA (by omega)
                have mB := hf.at mB (by omega)
                have mC := hf.at mC (by omega)
                have mL := hf.at mL (by omega)
                have hfr := hfr.in hf (by omega) (by omega)
                refine lv_iconst (v := nI 0) hx hb d_M_widen_210 (by decide) ?_
                exact gw_iret hx hb hr hlocks hK hP hD hS (Nat.le_of_ble_eq_true rfl) (Nat.le_of_ble_eq_true rfl) d_M_widen_211 ⟨⟨_, _, _, Or.inr ⟨k1, k2, k3, ⟨hk1, hk2, hk3, ek1, ek2, ek3⟩, Or.inr ⟨c4, c7, Or.inl ⟨gb_f e_r13 c14, rfl, rfl, rfl, rfl⟩⟩⟩, ⟨_, _, _, _, m0, mR, mE, mD, mO, mM, mP, mA, mB, mC, mL⟩⟩, hfr⟩
            · have c10 : ¬ (10 ≤ 10) := fun z => c10 ((nI_leI (a := 10) (b := 10) (by omega) (by omega)).mpr z)
              exfalso; omega
          | succ dd ih_74 =>
            intro i e_i w H locs ls m0 mR mE mD mO mM mP mA mB mC mL hfr hP hD hS hl
            refine lv_iload hx hb d_M_widen_74 (lv_at hl 0 rfl) ?_
            refine lv_bipush (v := nI 10) hx hb d_M_widen_76 (by decide) ?_
            refine lv_icmp_ge (tgt := 192) hx hb d_M_widen_78 (by decide) (fun c15 => ?_) (fun c15 => ?_)
            · have c15 := (nI_leI (a := 10) (b := i) (by omega) (by omega)).mp c15
              exfalso; omega
            · have c15 : ¬ (10 ≤ i) := fun z => c15 ((nI_leI (a := 10) (b := i) (by omega) (by omega)).mpr z)
              refine lv_iconst (v := nI 0) hx hb d_M_widen_81 (by decide) ?_
              refine lv_istore (lv' := [(6, .int (nI 0)), (5, .int (nI i)), (4, .int r8), (0, .ref (A 0)), (1, .int (nI k1)), (2, .int (nI k2)), (3, .int (nI k3))]) hx hb d_M_widen_82 hl (by decide) rfl (fun ls hl => ?_)
              have lp_84 : ∀ (dd k : Nat), k + dd = 10 → ∀ (w : va_W) (H : Heap) (locs : List Loc) (ls : Array Slot), w[b]? = some (A 0, .inr (3, [.int (nI 0), .int (nI N), .ref (A 1), .ref (A 2), .ref (A 3), .ref (A 4), .ref (A 5), .ref (A 6), .int (nI nm), .ref (A 7), .ref (A 8), .ref (A 9), .ref (A 10)])) → w[b + 1]? = some (A 1, .inl (cJ, 800, .inr (.inl R))) → w[b + 2]? = some (A 2, .inl (cZ, 8, .inl Em)) → w[b + 3]? = some (A 3, .inl (cJ, 100, .inr (.inl F9))) → w[b + 4]? = some (A 4, .inl (cJ, 100, .inr (.inl O))) → w[b + 5]? = some (A 5, .inl (cJ, 100, .inr (.inl (lm_wdI F9 R k2 i k (lm_wd F9 R k2 i Md))))) → w[b + 6]? = some (A 6, .inl (cJ, 6, .inr (.inl Pt))) → w[b + 7]? = some (A 7, .inl (cI, 60, .inl nA)) → w[b + 8]? = some (A 8, .inl (cI, 60, .inl nB)) → w[b + 9]? = some (A 9, .inl (cJ, 60, .inr (.inl nC))) → w[b + 10]? = some (A 10, .inl (cZ, 60, .inl Lf)) → gF b (b + 11) ws w → va_P D classes w H → va_D (va_A ws sz) w → va_S (va_A ws sz) s.heap H locs → lv_has ls 11 [(6, .int (nI k)), (5, .int (nI i)), (4, .int r8), (0, .ref (A 0)), (1, .int (nI k1)), (2, .int (nI k2)), (3, .int (nI k3))] → W p l e ({ frames := 4, cells := 0, slots := 0, locals := 74 } : Room) s m ([.ref (A 0), .int x, .int y, .int z] : List Value).toArray below meth c H locs 0 0 (MQ below (va_Qi (fun r w => (∃ th' R' E', lm_widO N R Em CF x y z Y th' r R' E' ∧ mS cJ cI cZ w b A N th' nm R' E' Pt nA nB nC) ∧ gF b (b + 11) ws w) (gw_B D classes (gT cJ cI cZ cS) ws sz) (va_A ws sz)) ([.ref (A 0), .int x, .int y, .int z] : List Value).toArray s 0 0 (va_A ws sz)) (F0 m 84 ls []) := by
                intro dd
                induction dd with
                | zero =>
                  intro k e_k w H locs ls m0 mR mE mD mO mM mP mA mB mC mL hfr hP hD hS hl
                  have e0_k : 10 = k := by omega
                  subst e0_k
                  refine lv_iload hx hb d_M_widen_84 (lv_at hl 0 rfl) ?_
                  refine lv_bipush (v := nI 10) hx hb d_M_widen_86 (by decide) ?_
                  refine lv_icmp_ge (tgt := 186) hx hb d_M_widen_88 (by decide) (fun c16 => ?_) (fun c16 => ?_)
                  · have c16 := (nI_leI (a := 10) (b := 10) (by omega) (by omega)).mp c16
                    refine lv_iinc (v := nI (i + 1)) (lv' := [(5, .int (nI (i + 1))), (6, .int (nI 10)), (4, .int r8), (0, .ref (A 0)), (1, .int (nI k1)), (2, .int (nI k2)), (3, .int (nI k3))]) hx hb d_M_widen_186 hl (k := 1) rfl (gx_inc _) (by decide) rfl (fun ls hl => ?_)
                    refine lv_goto (tgt := 74) hx hb d_M_widen_189 (by decide) ?_
                    exact ih_74 (i + 1) (by omega) _ _ _ _ m0 mR mE mD mO mM mP mA mB mC mL hfr hP hD hS (lv_sub hl [0, 2, 3, 4, 5, 6] rfl)
                  · have c16 : ¬ (10 ≤ 10) := fun z => c16 ((nI_leI (a := 10) (b := 10) (by omega) (by omega)).mpr z)
                    exfalso; omega
                | succ dd ih_84 =>
                  intro k e_k w H locs ls m0 mR mE mD mO mM mP mA mB mC mL hfr hP hD hS hl
                  refine lv_iload hx hb d_M_widen_84 (lv_at hl 0 rfl) ?_
                  refine lv_bipush (v := nI 10) hx hb d_M_widen_86 (by decide) ?_
                  refine lv_icmp_ge (tgt := 186) hx hb d_M_widen_88 (by decide) (fun c17 => ?_) (fun c17 => ?_)
                  · have c17 := (nI_leI (a := 10) (b := k) (by omega) (by omega)).mp c17
                    exfalso; omega
                  · have c17 : ¬ (10 ≤ k) := fun z => c17 ((nI_leI (a := 10) (b := k) (by omega) (by omega)).mpr z)
                    refine lv_aload_n hx hb d_M_widen_91 rfl (lv_at hl 3 rfl) ?_
                    refine gf_M_7 hF hT hK hP m0 rfl d_M_widen_92 ?_
                    refine lv_bipush (v := nI 100) hx hb d_M_widen_95 (by decide) ?_
                    refine lv_iload_n hx hb d_M_widen_97 rfl (lv_at hl 5 rfl) ?_
                    refine lv_imul hx hb d_M_widen_98 ?_
                    refine gx_i (y := nI (100 * k2)) (pk_mul _ _) ?_
                    refine lv_bipush (v := nI 10) hx hb d_M_widen_99 (by decide) ?_
                    refine lv_iload hx hb d_M_widen_101 (lv_at hl 1 rfl) ?_
                    refine lv_imul hx hb d_M_widen_103 ?_
                    refine gx_i (y := nI (10 * i)) (pk_mul _ _) ?_
                    refine lv_iadd hx hb d_M_widen_104 ?_
                    refine gx_i (y := nI ((100 * k2) + (10 * i))) (nI_add _ _) ?_
                    refine lv_iload hx hb d_M_widen_105 (lv_at hl 0 rfl) ?_
                    refine lv_iadd hx hb d_M_widen_107 ?_
                    refine gx_i (y := nI (((100 * k2) + (10 * i)) + k)) (nI_add _ _) ?_
                    refine g_lald (t0 := 0) (k := ((100 * k2) + (10 * i)) + k) hx hb hK hP mR rfl (by omega) (by omega) d_M_widen_108 ?_
                    refine lv_lstore (lv' := [(7, .long (R (((100 * k2) + (10 * i)) + k))), (6, .int (nI k)), (5, .int (nI i)), (4, .int r8), (0, .ref (A 0)), (1, .int (nI k1)), (2, .int (nI k2)), (3, .int (nI k3))]) hx hb d_M_widen_109 hl (by decide) rfl (fun ls hl => ?_)
                    have mg_138 : ∀ (H : Heap) (locs : List Loc), va_P D classes w H → va_D (va_A ws sz) w → va_S (va_A ws sz) s.heap H locs → W p l e ({ frames := 4, cells := 0, slots := 0, locals := 74 } : Room) s m ([.ref (A 0), .int x, .int y, .int z] : List Value).toArray below meth c H locs 0 0 (MQ below (va_Qi (fun r w => (∃ th' R' E', lm_widO N R Em CF x y z Y th' r R' E' ∧ mS cJ cI cZ w b A N th' nm R' E' Pt nA nB nC) ∧ gF b (b + 11) ws w) (gw_B D classes (gT cJ cI cZ cS) ws sz) (va_A ws sz)) ([.ref (A 0), .int x, .int y, .int z] : List Value).toArray s 0 0 (va_A ws sz)) (F0 m 138 ls [.long (lm_db i k (R (100 * k2 + 10 * i + k)))]) := by
                      intro H locs hP hD hS
                      refine lv_lstore (lv' := [(9, .long (lm_db i k (R (100 * k2 + 10 * i + k)))), (7, .long (R (((100 * k2) + (10 * i)) + k))), (6, .int (nI k)), (5, .int (nI i)), (4, .int r8), (0, .ref (A 0)), (1, .int (nI k1)), (2, .int (nI k2)), (3, .int (nI k3))]) hx hb d_M_widen_138 hl (by decide) rfl (fun ls hl => ?_)
                      refine lv_aload_n hx hb d_M_widen_140 rfl (lv_at hl 5 rfl) ?_
                      refine gf_M_23 hF hT hK hP m0 rfl d_M_widen_141 ?_
                      refine lv_bipush (v := nI 10) hx hb d_M_widen_144 (by decide) ?_
                      refine lv_iload hx hb d_M_widen_146 (lv_at hl 3 rfl) ?_
                      refine lv_imul hx hb d_M_widen_148 ?_
                      refine gx_i (y := nI (10 * i)) (pk_mul _ _) ?_
                      refine lv_iload hx hb d_M_widen_149 (lv_at hl 2 rfl) ?_
                      refine lv_iadd hx hb d_M_widen_151 ?_
                      refine gx_i (y := nI ((10 * i) + k)) (nI_add _ _) ?_
                      have mg_179 : ∀ (H : Heap) (locs : List Loc), va_P D classes w H → va_D (va_A ws sz) w → va_S (va_A ws sz) s.heap H locs → W p l e ({ frames := 4, cells := 0, slots := 0, locals := 74 } : Room) s m ([.ref (A 0), .int x, .int y, .int z] : List Value).toArray below meth c H locs 0 0 (MQ below (va_Qi (fun r w => (∃ th' R' E', lm_widO N R Em CF x y z Y th' r R' E' ∧ mS cJ cI cZ w b A N th' nm R' E' Pt nA nB nC) ∧ gF b (b + 11) ws w) (gw_B D classes (gT cJ cI cZ cS) ws sz) (va_A ws sz)) ([.ref (A 0), .int x, .int y, .int z] : List Value).toArray s 0 0 (va_A ws sz)) (F0 m 179 ls [.long (lm_wc i k (F9 (10 * i + k)) (R (100 * k2 + 10 * i + k))), .int (nI ((10 * i) + k)), .ref (A 5)]) := by
                        intro H locs hP hD hS
                        refine g_last (t0 := 0) (k := (10 * i) + k) hx hb hK hP hD hS mM rfl (by omega) (by omega) d_M_widen_179 (fun w H locs mM hf hP hD hS => ?_)
                        have m0 := hf.at m0 (by omega)
                        have mR := hf.at mR (by omega)
                        have mE := hf.at mE (by omega)
                        have mD := hf.at mD (by omega)
                        have mO := hf.at mO (by omega)
                        have mP := hf.at mP (by omega)
                        have mA := hf.at mA (by omega)
                        have mB := hf.at mB (by omega)
                        have mC := hf.at mC (by omega)
                        have mL := hf.at mL (by omega)
                        have hfr := hfr.in hf (by omega) (by omega)
                        refine lv_iinc (v := nI (k + 1)) (lv' := [(6, .int (nI (k + 1))), (9, .long (lm_db i k (R (100 * k2 + 10 * i + k)))), (7, .long (R (((100 * k2) + (10 * i)) + k))), (5, .int (nI i)), (4, .int r8), (0, .ref (A 0)), (1, .int (nI k1)), (2, .int (nI k2)), (3, .int (nI k3))]) hx hb d_M_widen_180 hl (k := 2) rfl (gx_inc _) (by decide) rfl (fun ls hl => ?_)
                        refine lv_goto (tgt := 84) hx hb d_M_widen_183 (by decide) ?_
                        exact ih_84 (k + 1) (by omega) _ _ _ _ m0 mR mE mD mO mM mP mA mB mC mL hfr hP hD hS (lv_sub hl [0, 3, 4, 5, 6, 7, 8] rfl)
                      refine lv_aload_n hx hb d_M_widen_152 rfl (lv_at hl 5 rfl) ?_
                      refine gf_M_17 hF hT hK hP m0 rfl d_M_widen_153 ?_
                      refine lv_bipush (v := nI 10) hx hb d_M_widen_156 (by decide) ?_
                      refine lv_iload hx hb d_M_widen_158 (lv_at hl 3 rfl) ?_
                      refine lv_imul hx hb d_M_widen_160 ?_
                      refine gx_i (y := nI (10 * i)) (pk_mul _ _) ?_
                      refine lv_iload hx hb d_M_widen_161 (lv_at hl 2 rfl) ?_
                      refine lv_iadd hx hb d_M_widen_163 ?_
                      refine gx_i (y := nI ((10 * i) + k)) (nI_add _ _) ?_
                      refine g_lald (t0 := 0) (k := (10 * i) + k) hx hb hK hP mD rfl (by omega) (by omega) d_M_widen_164 ?_
                      refine lv_lload hx hb d_M_widen_165 (lv_at hl 0 rfl) ?_
                      refine gx_lgt (tgt := 176) hx hb d_M_widen_167 d_M_widen_168 (by decide) (fun c18 => ?_) (fun c18 => ?_)
                      · refine lv_ldc2 (v := lr_E) hx hb hown (hts _ (hT _ wm_3_124)) d_M_widen_176 ?_
                        exact gx_l (y := lm_wc i k (F9 (10 * i + k)) (R (100 * k2 + 10 * i + k))) (by unfold lm_wc; rw [if_pos c18]) (mg_179 _ _ hP hD hS)
                      · refine lv_lload hx hb d_M_widen_171 (lv_at hl 1 rfl) ?_
                        refine lv_goto (tgt := 179) hx hb d_M_widen_173 (by decide) ?_
                        exact gx_l (y := lm_wc i k (F9 (10 * i + k)) (R (100 * k2 + 10 * i + k))) (by unfold lm_wc; rw [if_neg c18]) (mg_179 _ _ hP hD hS)
                    refine lv_iload hx hb d_M_widen_111 (lv_at hl 2 rfl) ?_
                    refine lv_iload hx hb d_M_widen_113 (lv_at hl 1 rfl) ?_
                    refine lv_icmp_ne (tgt := 136) hx hb d_M_widen_115 (by decide) (fun c19 => ?_) (fun c19 => ?_)
                    · have c19 : ¬ (i = k) := fun z => c19 ((nI_eq (a := i) (b := k) (by omega) (by omega)).mpr z)
                      refine lv_lload hx hb d_M_widen_136 (lv_at hl 0 rfl) ?_
                      exact gx_l (y := lm_db i k (R (100 * k2 + 10 * i + k))) (by unfold lm_db; rw [if_neg c19]) (mg_138 _ _ hP hD hS)
                    · have c19 := (nI_eq (a := i) (b := k) (by omega) (by omega)).mp c19
                      refine lv_lload hx hb d_M_widen_118 (lv_at hl 0 rfl) ?_
                      refine lv_ldc2 (v := lr_E) hx hb hown (hts _ (hT _ wm_3_124)) d_M_widen_120 ?_
                      refine gx_leq (tgt := 136) hx hb d_M_widen_123 d_M_widen_124 (by decide) (fun c20 => ?_) (fun c20 => ?_)
                      · refine lv_lload hx hb d_M_widen_136 (lv_at hl 0 rfl) ?_
                        exact gx_l (y := lm_db i k (R (100 * k2 + 10 * i + k))) (by unfold lm_db; rw [if_pos c19, if_pos c20]) (mg_138 _ _ hP hD hS)
                      · refine lv_ldc2 (v := (2 : Int64)) hx hb hown (hts _ (hT _ wm_3_202)) d_M_widen_127 ?_
                        refine lv_lload hx hb d_M_widen_130 (lv_at hl 0 rfl) ?_
                        refine lv_lmul hx hb d_M_widen_132 ?_
                        refine lv_goto (tgt := 138) hx hb d_M_widen_133 (by decide) ?_
                        exact gx_l (y := lm_db i k (R (100 * k2 + 10 * i + k))) (by unfold lm_db; rw [if_pos c19, if_neg c20]) (mg_138 _ _ hP hD hS)
              exact lp_84 10 0 (by omega) _ _ _ _ m0 mR mE mD mO mM mP mA mB mC mL hfr hP hD hS (lv_sub hl [0, 1, 2, 3, 4, 5, 6] rfl)
        exact lp_74 10 0 (by omega) _ _ _ _ m0 mR mE mD mO mM mP mA mB mC mL hfr hP hD hS (lv_sub hl [0, 1, 2, 3, 4, 5] rfl)
      · refine lv_aload_n hx hb d_M_widen_30 rfl (lv_at hl 0 rfl) ?_
        refine lv_iload_n hx hb d_M_widen_31 rfl (lv_at hl 1 rfl) ?_
        refine lv_aload_n hx hb d_M_widen_32 rfl (lv_at hl 0 rfl) ?_
        refine gf_M_13 hF hT hK hP m0 rfl d_M_widen_33 ?_
        refine lv_iload_n hx hb d_M_widen_36 rfl (lv_at hl 2 rfl) ?_
        refine g_zald (t0 := 2) (k := k2) hx hb hK hP mE rfl (by omega) (by omega) d_M_widen_37 ?_
        refine lv_if_eq (tgt := 45) hx hb d_M_widen_38 (by decide) (fun c21 => ?_) (fun c21 => ?_)
        · refine lv_iload_n hx hb d_M_widen_45 rfl (lv_at hl 2 rfl) ?_
          refine gw_cv (gc_M_122 (As := [.int (nI k1), .int (nI k2)]) (rest := []) hF hT (c_M_copyRows m0 mR mE hN1 hN5 (t := k1) (u := k2) (by omega) (by omega) hE) ⟨(Nat.le_of_ble_eq_true rfl), (Nat.le_of_ble_eq_true rfl)⟩ rfl rfl hK hN hP hD m0 rfl hl.1 rfl (Nat.le_of_ble_eq_true rfl) d_M_widen_46 ⟨(Nat.le_of_ble_eq_true rfl), (Nat.le_of_ble_eq_true rfl)⟩) hD hS hA (fun w H locs hw hP hD hS => ?_)
          obtain ⟨⟨mR, mE⟩, hf⟩ := hw
          have m0 := hf.at m0 (by omega)
          have mD := hf.at mD (by omega)
          have mO := hf.at mO (by omega)
          have mM := hf.at mM (by omega)
          have mP := hf.at mP (by omega)
          have mA := hf.at mA (by omega)
          have mB := hf.at mB (by omega)
          have mC := hf.at mC (by omega)
          have mL := hf.at mL (by omega)
          have hfr := hfr.in hf (by omega) (by omega)
          refine lv_aload_n hx hb d_M_widen_49 rfl (lv_at hl 0 rfl) ?_
          refine gf_M_13 hF hT hK hP m0 rfl d_M_widen_50 ?_
          refine lv_iload_n hx hb d_M_widen_53 rfl (lv_at hl 1 rfl) ?_
          refine g_zald (t0 := 2) (k := k1) hx hb hK hP mE rfl (by omega) (by omega) d_M_widen_54 ?_
          refine lv_if_eq (tgt := 62) hx hb d_M_widen_55 (by decide) (fun c22 => ?_) (fun c22 => ?_)
          · refine lv_iconst (v := nI 1) hx hb d_M_widen_62 (by decide) ?_
            exact gw_iret hx hb hr hlocks hK hP hD hS (Nat.le_of_ble_eq_true rfl) (Nat.le_of_ble_eq_true rfl) d_M_widen_63 ⟨⟨_, _, _, Or.inr ⟨k1, k2, k3, ⟨hk1, hk2, hk3, ek1, ek2, ek3⟩, Or.inl ⟨Or.inr c7, rfl, _, Or.inr ⟨c4, rfl⟩, rfl, rfl, Or.inl ⟨c22, rfl⟩⟩⟩, ⟨_, _, _, _, m0, mR, mE, mD, mO, mM, mP, mA, mB, mC, mL⟩⟩, hfr⟩
          · refine lv_iconst (v := nI 0) hx hb d_M_widen_58 (by decide) ?_
            refine lv_goto (tgt := 63) hx hb d_M_widen_59 (by decide) ?_
            exact gw_iret hx hb hr hlocks hK hP hD hS (Nat.le_of_ble_eq_true rfl) (Nat.le_of_ble_eq_true rfl) d_M_widen_63 ⟨⟨_, _, _, Or.inr ⟨k1, k2, k3, ⟨hk1, hk2, hk3, ek1, ek2, ek3⟩, Or.inl ⟨Or.inr c7, rfl, _, Or.inr ⟨c4, rfl⟩, rfl, rfl, Or.inr ⟨c22, rfl⟩⟩⟩, ⟨_, _, _, _, m0, mR, mE, mD, mO, mM, mP, mA, mB, mC, mL⟩⟩, hfr⟩
        · exact absurd c4 c21
  · obtain ⟨hno, hth⟩ := h_r1.n c3
    subst hth
    refine lv_iconst (v := nI 0) hx hb d_M_widen_10 (by decide) ?_
    exact gw_iret hx hb hr hlocks hK hP hD hS (Nat.le_of_ble_eq_true rfl) (Nat.le_of_ble_eq_true rfl) d_M_widen_11 ⟨⟨_, _, _, Or.inl ⟨hno, rfl, rfl, rfl⟩, ⟨_, _, _, _, m0, mR, mE, mD, mO, mM, mP, mA, mB, mC, mL⟩⟩, hfr⟩

set_option maxHeartbeats 4000000 in
set_option maxRecDepth 100000 in
theorem c_M_narrow {l : Launch} {D : va_G} {cJ cI cZ cS : ClassId} {ws : va_W} {sz : Nat} {b N nm : Nat} {A : Nat → Nat} {th : Int32} {R Pt nC : Nat → Int64} {Em nA nB : Nat → Int32} (hM : mS cJ cI cZ ws b A N th nm R Em Pt nA nB nC) (hN1 : 1 ≤ N) (hN5 : N ≤ 5) {CF : Nat → Nat → Nat → Int64} (hF1 : lm_F N R Em CF) {o : Option (Nat → Nat → Int64)} {x y z : Int32} (hc : ∀ k2 k3, k2 < 8 → k3 < 8 → y = nI k2 → z = nI k3 → Em k2 = 0 → Em k3 = 0 → lm_Cl N (fun i k => lm_db i k (lm_nM (CF k2) (CF k3) R k2 i k)) o) : Met l y_M_narrow w_M_narrow ({ frames := 4, cells := 0, slots := 0, locals := 74 } : Room) (gw_Pc D classes (gT cJ cI cZ cS) [.ref (A 0), .int x, .int y, .int z] ws sz) (va_Qi (fun r w => (∃ th' R' E', lm_narO N R Em CF x y z o th' r R' E' ∧ mS cJ cI cZ w b A N th' nm R' E' Pt nA nB nC) ∧ gF b (b + 11) ws w) (gw_B D classes (gT cJ cI cZ cS) ws sz) (va_A ws sz)) 0 0 (va_A ws sz) := by
  refine gw_head (by decide) (Nat.le_of_ble_eq_true rfl) (fun p e s m below meth c hsz hx hb hr hlocks hml hown hnm hts hK hN hP hD hS hA ls hl => ?_)
  have hown : s.vm.findClass R_M = some m.cls := hown
  have hT : ∀ w ∈ wG, w ∈ Cond.code y_M_narrow b_M_narrow 12 (some .int) :: wG := gd_t _
  have hF : CallFix p m c b_M_narrow 12 s ([.ref (A 0), .int x, .int y, .int z] : List Value).toArray (Cond.code y_M_narrow b_M_narrow 12 (some .int) :: wG) R_M := ⟨hx, hb, hml, hown, hts⟩
  have hl : lv_has ls 12 [(0, .ref (A 0)), (1, .int x), (2, .int y), (3, .int z)] := hl
  obtain ⟨D0, O, Md, Lf, m0, mR, mE, mD, mO, mM, mP, mA, mB, mC, mL⟩ := hM
  have hfr : gF b (b + 11) ws ws := gF.rf
  refine lv_aload_n hx hb d_M_narrow_0 rfl (lv_at hl 0 rfl) ?_
  refine lv_iload_n hx hb d_M_narrow_1 rfl (lv_at hl 1 rfl) ?_
  refine lv_iload_n hx hb d_M_narrow_2 rfl (lv_at hl 2 rfl) ?_
  refine lv_iload_n hx hb d_M_narrow_3 rfl (lv_at hl 3 rfl) ?_
  refine gw_ci (gc_M_110 (As := [.int x, .int y, .int z]) (rest := []) hF hT (c_M_areShapes m0 hN1 hN5) ⟨(Nat.le_of_ble_eq_true rfl), (Nat.le_of_ble_eq_true rfl)⟩ rfl rfl hK hN hP hD m0 rfl hl.1 rfl (Nat.le_of_ble_eq_true rfl) d_M_narrow_4 ⟨(Nat.le_of_ble_eq_true rfl), (Nat.le_of_ble_eq_true rfl)⟩) hD hS hA (fun r1 w H locs hw hP hD hS => ?_)
  obtain ⟨⟨th2, m0, h_r1⟩, hf⟩ := hw
  have mR := hf.at mR (by omega)
  have mE := hf.at mE (by omega)
  have mD := hf.at mD (by omega)
  have mO := hf.at mO (by omega)
  have mM := hf.at mM (by omega)
  have mP := hf.at mP (by omega)
  have mA := hf.at mA (by omega)
  have mB := hf.at mB (by omega)
  have mC := hf.at mC (by omega)
  have mL := hf.at mL (by omega)
  have hfr := hfr.in hf (by omega) (by omega)
  refine lv_if_ne (tgt := 12) hx hb d_M_narrow_7 (by decide) (fun c3 => ?_) (fun c3 => ?_)
  · obtain ⟨⟨hs1, hs2, hs3⟩, hth⟩ := h_r1.y c3
    subst hth
    obtain ⟨k1, hk1, ek1⟩ := hs1.k
    rw [ek1] at hl
    obtain ⟨k2, hk2, ek2⟩ := hs2.k
    rw [ek2] at hl
    obtain ⟨k3, hk3, ek3⟩ := hs3.k
    rw [ek3] at hl
    refine lv_aload_n hx hb d_M_narrow_12 rfl (lv_at hl 0 rfl) ?_
    refine gf_M_13 hF hT hK hP m0 rfl d_M_narrow_13 ?_
    refine lv_iload_n hx hb d_M_narrow_16 rfl (lv_at hl 2 rfl) ?_
    refine g_zald (t0 := 2) (k := k2) hx hb hK hP mE rfl (by omega) (by omega) d_M_narrow_17 ?_
    refine lv_if_ne (tgt := 30) hx hb d_M_narrow_18 (by decide) (fun c4 => ?_) (fun c4 => ?_)
    · refine lv_aload_n hx hb d_M_narrow_30 rfl (lv_at hl 0 rfl) ?_
      refine lv_iload_n hx hb d_M_narrow_31 rfl (lv_at hl 1 rfl) ?_
      refine gw_cv (gc_M_73 (As := [.int (nI k1)]) (rest := []) hF hT (c_M_none m0 mR mE hN1 hN5 (u := k1) (by omega)) ⟨(Nat.le_of_ble_eq_true rfl), (Nat.le_of_ble_eq_true rfl)⟩ rfl rfl hK hN hP hD m0 rfl hl.1 rfl (Nat.le_of_ble_eq_true rfl) d_M_narrow_32 ⟨(Nat.le_of_ble_eq_true rfl), (Nat.le_of_ble_eq_true rfl)⟩) hD hS hA (fun w H locs hw hP hD hS => ?_)
      obtain ⟨⟨mR, mE⟩, hf⟩ := hw
      have m0 := hf.at m0 (by omega)
      have mD := hf.at mD (by omega)
      have mO := hf.at mO (by omega)
      have mM := hf.at mM (by omega)
      have mP := hf.at mP (by omega)
      have mA := hf.at mA (by omega)
      have mB := hf.at mB (by omega)
      have mC := hf.at mC (by omega)
      have mL := hf.at mL (by omega)
      have hfr := hfr.in hf (by omega) (by omega)
      refine lv_iconst (v := nI 0) hx hb d_M_narrow_35 (by decide) ?_
      exact gw_iret hx hb hr hlocks hK hP hD hS (Nat.le_of_ble_eq_true rfl) (Nat.le_of_ble_eq_true rfl) d_M_narrow_36 ⟨⟨_, _, _, Or.inr ⟨k1, k2, k3, ⟨hk1, hk2, hk3, ek1, ek2, ek3⟩, Or.inl ⟨Or.inl c4, rfl, rfl, rfl, rfl⟩⟩, ⟨_, _, _, _, m0, mR, mE, mD, mO, mM, mP, mA, mB, mC, mL⟩⟩, hfr⟩
    · refine lv_aload_n hx hb d_M_narrow_21 rfl (lv_at hl 0 rfl) ?_
      refine gf_M_13 hF hT hK hP m0 rfl d_M_narrow_22 ?_
      refine lv_iload_n hx hb d_M_narrow_25 rfl (lv_at hl 3 rfl) ?_
      refine g_zald (t0 := 2) (k := k3) hx hb hK hP mE rfl (by omega) (by omega) d_M_narrow_26 ?_
      refine lv_if_eq (tgt := 37) hx hb d_M_narrow_27 (by decide) (fun c5 => ?_) (fun c5 => ?_)
      · refine lv_aload_n hx hb d_M_narrow_37 rfl (lv_at hl 0 rfl) ?_
        refine lv_iload_n hx hb d_M_narrow_38 rfl (lv_at hl 2 rfl) ?_
        refine gw_ci (gc_M_98 (As := [.int (nI k2)]) (rest := []) hF hT (c_M_closeShape m0 mR mE mD hN1 hN5 (u := k2) (by omega) (hF1 k2 hk2)) ⟨(Nat.le_of_ble_eq_true rfl), (Nat.le_of_ble_eq_true rfl)⟩ rfl rfl hK hN hP hD m0 rfl hl.1 rfl (Nat.le_of_ble_eq_true rfl) d_M_narrow_39 ⟨(Nat.le_of_ble_eq_true rfl), (Nat.le_of_ble_eq_true rfl)⟩) hD hS hA (fun r6 w H locs hw hP hD hS => ?_)
        obtain ⟨⟨F7, mD, h_r6⟩, hf⟩ := hw
        have m0 := hf.at m0 (by omega)
        have mR := hf.at mR (by omega)
        have mE := hf.at mE (by omega)
        have mO := hf.at mO (by omega)
        have mM := hf.at mM (by omega)
        have mP := hf.at mP (by omega)
        have mA := hf.at mA (by omega)
        have mB := hf.at mB (by omega)
        have mC := hf.at mC (by omega)
        have mL := hf.at mL (by omega)
        have hfr := hfr.in hf (by omega) (by omega)
        obtain ⟨_, hag39⟩ := h_r6.e c4
        refine lv_istore (lv' := [(4, .int r6), (0, .ref (A 0)), (1, .int (nI k1)), (2, .int (nI k2)), (3, .int (nI k3))]) hx hb d_M_narrow_42 hl (by decide) rfl (fun ls hl => ?_)
        refine lv_aload_n hx hb d_M_narrow_44 rfl (lv_at hl 1 rfl) ?_
        refine lv_iconst (v := nI 1) hx hb d_M_narrow_45 (by decide) ?_
        refine gw_cv (gc_M_118 (As := [.int (nI 1)]) (rest := []) hF hT (c_M_copyTable m0 mD mO hN1 hN5 (z := nI 1)) ⟨(Nat.le_of_ble_eq_true rfl), (Nat.le_of_ble_eq_true rfl)⟩ rfl rfl hK hN hP hD m0 rfl hl.1 rfl (Nat.le_of_ble_eq_true rfl) d_M_narrow_46 ⟨(Nat.le_of_ble_eq_true rfl), (Nat.le_of_ble_eq_true rfl)⟩) hD hS hA (fun w H locs hw hP hD hS => ?_)
        obtain ⟨hw, hf⟩ := hw
        obtain ⟨mD, mO⟩ := lm_ct1 hw
        have m0 := hf.at m0 (by omega)
        have mR := hf.at mR (by omega)
        have mE := hf.at mE (by omega)
        have mM := hf.at mM (by omega)
        have mP := hf.at mP (by omega)
        have mA := hf.at mA (by omega)
        have mB := hf.at mB (by omega)
        have mC := hf.at mC (by omega)
        have mL := hf.at mL (by omega)
        have hfr := hfr.in hf (by omega) (by omega)
        refine lv_aload_n hx hb d_M_narrow_49 rfl (lv_at hl 1 rfl) ?_
        refine lv_iload_n hx hb d_M_narrow_50 rfl (lv_at hl 4 rfl) ?_
        refine gw_ci (gc_M_98 (As := [.int (nI k3)]) (rest := []) hF hT (c_M_closeShape m0 mR mE mD hN1 hN5 (u := k3) (by omega) (hF1 k3 hk3)) ⟨(Nat.le_of_ble_eq_true rfl), (Nat.le_of_ble_eq_true rfl)⟩ rfl rfl hK hN hP hD m0 rfl hl.1 rfl (Nat.le_of_ble_eq_true rfl) d_M_narrow_51 ⟨(Nat.le_of_ble_eq_true rfl), (Nat.le_of_ble_eq_true rfl)⟩) hD hS hA (fun r8 w H locs hw hP hD hS => ?_)
        obtain ⟨⟨F9, mD, h_r8⟩, hf⟩ := hw
        have m0 := hf.at m0 (by omega)
        have mR := hf.at mR (by omega)
        have mE := hf.at mE (by omega)
        have mO := hf.at mO (by omega)
        have mM := hf.at mM (by omega)
        have mP := hf.at mP (by omega)
        have mA := hf.at mA (by omega)
        have mB := hf.at mB (by omega)
        have mC := hf.at mC (by omega)
        have mL := hf.at mL (by omega)
        have hfr := hfr.in hf (by omega) (by omega)
        obtain ⟨_, hag51⟩ := h_r8.e c5
        refine lv_istore (lv' := [(4, .int r8), (0, .ref (A 0)), (1, .int (nI k1)), (2, .int (nI k2)), (3, .int (nI k3))]) hx hb d_M_narrow_54 hl (by decide) rfl (fun ls hl => ?_)
        refine lv_iconst (v := nI 0) hx hb d_M_narrow_56 (by decide) ?_
        refine lv_istore (lv' := [(5, .int (nI 0)), (4, .int r8), (0, .ref (A 0)), (1, .int (nI k1)), (2, .int (nI k2)), (3, .int (nI k3))]) hx hb d_M_narrow_57 hl (by decide) rfl (fun ls hl => ?_)
        have lp_59 : ∀ (dd i : Nat), i + dd = (2 * N) → ∀ (w : va_W) (H : Heap) (locs : List Loc) (ls : Array Slot), w[b]? = some (A 0, .inr (3, [.int (nI 0), .int (nI N), .ref (A 1), .ref (A 2), .ref (A 3), .ref (A 4), .ref (A 5), .ref (A 6), .int (nI nm), .ref (A 7), .ref (A 8), .ref (A 9), .ref (A 10)])) → w[b + 1]? = some (A 1, .inl (cJ, 800, .inr (.inl R))) → w[b + 2]? = some (A 2, .inl (cZ, 8, .inl Em)) → w[b + 3]? = some (A 3, .inl (cJ, 100, .inr (.inl F9))) → w[b + 4]? = some (A 4, .inl (cJ, 100, .inr (.inl (lm_cp F7 O)))) → w[b + 5]? = some (A 5, .inl (cJ, 100, .inr (.inl (lm_nd (lm_cp F7 O) F9 R k2 (2 * N) i Md)))) → w[b + 6]? = some (A 6, .inl (cJ, 6, .inr (.inl Pt))) → w[b + 7]? = some (A 7, .inl (cI, 60, .inl nA)) → w[b + 8]? = some (A 8, .inl (cI, 60, .inl nB)) → w[b + 9]? = some (A 9, .inl (cJ, 60, .inr (.inl nC))) → w[b + 10]? = some (A 10, .inl (cZ, 60, .inl Lf)) → gF b (b + 11) ws w → va_P D classes w H → va_D (va_A ws sz) w → va_S (va_A ws sz) s.heap H locs → lv_has ls 12 [(5, .int (nI i)), (4, .int r8), (0, .ref (A 0)), (1, .int (nI k1)), (2, .int (nI k2)), (3, .int (nI k3))] → W p l e ({ frames := 4, cells := 0, slots := 0, locals := 74 } : Room) s m ([.ref (A 0), .int x, .int y, .int z] : List Value).toArray below meth c H locs 0 0 (MQ below (va_Qi (fun r w => (∃ th' R' E', lm_narO N R Em CF x y z o th' r R' E' ∧ mS cJ cI cZ w b A N th' nm R' E' Pt nA nB nC) ∧ gF b (b + 11) ws w) (gw_B D classes (gT cJ cI cZ cS) ws sz) (va_A ws sz)) ([.ref (A 0), .int x, .int y, .int z] : List Value).toArray s 0 0 (va_A ws sz)) (F0 m 59 ls []) := by
          intro dd
          induction dd with
          | zero =>
            intro i e_i w H locs ls m0 mR mE mD mO mM mP mA mB mC mL hfr hP hD hS hl
            have e0_i : (2 * N) = i := by omega
            subst e0_i
            refine lv_iload hx hb d_M_narrow_59 (lv_at hl 0 rfl) ?_
            refine lv_iconst (v := nI 2) hx hb d_M_narrow_61 (by decide) ?_
            refine lv_aload_n hx hb d_M_narrow_62 rfl (lv_at hl 2 rfl) ?_
            refine gf_M_42 hF hT hK hP m0 rfl d_M_narrow_63 ?_
            refine lv_imul hx hb d_M_narrow_66 ?_
            refine gx_i (y := nI (2 * N)) (pk_mul _ _) ?_
            refine lv_icmp_ge (tgt := 218) hx hb d_M_narrow_67 (by decide) (fun c10 => ?_) (fun c10 => ?_)
            · have c10 := (nI_leI (a := (2 * N)) (b := (2 * N)) (by omega) (by omega)).mp c10
              refine lv_aload_n hx hb d_M_narrow_218 rfl (lv_at hl 2 rfl) ?_
              refine gw_ci (gc_M_126 (As := []) (rest := []) hF hT (c_M_closeMade m0 mD mM hN1 hN5 (lm_ag_nd hN5 (lm_ag_cp hN5 hag39) hag51) (hc k2 k3 hk2 hk3 ek2 ek3 c4 c5)) ⟨(Nat.le_of_ble_eq_true rfl), (Nat.le_of_ble_eq_true rfl)⟩ rfl rfl hK hN hP hD m0 rfl hl.1 rfl (Nat.le_of_ble_eq_true rfl) d_M_narrow_219 ⟨(Nat.le_of_ble_eq_true rfl), (Nat.le_of_ble_eq_true rfl)⟩) hD hS hA (fun r11 w H locs hw hP hD hS => ?_)
              obtain ⟨⟨F12, mD, h_r11⟩, hf⟩ := hw
              have m0 := hf.at m0 (by omega)
              have mR := hf.at mR (by omega)
              have mE := hf.at mE (by omega)
              have mO := hf.at mO (by omega)
              have mM := hf.at mM (by omega)
              have mP := hf.at mP (by omega)
              have mA := hf.at mA (by omega)
              have mB := hf.at mB (by omega)
              have mC := hf.at mC (by omega)
              have mL := hf.at mL (by omega)
              have hfr := hfr.in hf (by omega) (by omega)
              refine lv_if_ne (tgt := 232) hx hb d_M_narrow_222 (by decide) (fun c13 => ?_) (fun c13 => ?_)
              · obtain ⟨_, Y, hoY, hag⟩ := h_r11.y c13
                refine lv_aload_n hx hb d_M_narrow_232 rfl (lv_at hl 2 rfl) ?_
                refine gw_ci0 (gc_M_101 (As := []) (rest := []) hF hT (c_M_isFar m0 mD hN1 hN5 hag) ⟨(Nat.le_of_ble_eq_true rfl), (Nat.le_of_ble_eq_true rfl)⟩ rfl rfl hK hN hP hD m0 rfl hl.1 rfl (Nat.le_of_ble_eq_true rfl) d_M_narrow_233 ⟨(Nat.le_of_ble_eq_true rfl), (Nat.le_of_ble_eq_true rfl)⟩) hD hS hA (fun r14 H locs e_r14 hP hD hS => ?_)
                refine lv_if_eq (tgt := 246) hx hb d_M_narrow_236 (by decide) (fun c15 => ?_) (fun c15 => ?_)
                · refine lv_aload_n hx hb d_M_narrow_246 rfl (lv_at hl 2 rfl) ?_
                  refine lv_iload_n hx hb d_M_narrow_247 rfl (lv_at hl 3 rfl) ?_
                  refine gw_cv (gc_M_129 (As := [.int (nI k1)]) (rest := []) hF hT (c_M_keepMade m0 mR mE mM hN1 hN5 (u := k1) (by omega)) ⟨(Nat.le_of_ble_eq_true rfl), (Nat.le_of_ble_eq_true rfl)⟩ rfl rfl hK hN hP hD m0 rfl hl.1 rfl (Nat.le_of_ble_eq_true rfl) d_M_narrow_248 ⟨(Nat.le_of_ble_eq_true rfl), (Nat.le_of_ble_eq_true rfl)⟩) hD hS hA (fun w H locs hw hP hD hS => ?_)
                  obtain ⟨⟨mR, mE⟩, hf⟩ := hw
                  have m0 := hf.at m0 (by omega)
                  have mD := hf.at mD (by omega)
                  have mO := hf.at mO (by omega)
                  have mM := hf.at mM (by omega)
                  have mP := hf.at mP (by omega)
                  have mA := hf.at mA (by omega)
                  have mB := hf.at mB (by omega)
                  have mC := hf.at mC (by omega)
                  have mL := hf.at mL (by omega)
                  have hfr := hfr.in hf (by omega) (by omega)
                  refine lv_iconst (v := nI 1) hx hb d_M_narrow_251 (by decide) ?_
                  exact gw_iret hx hb hr hlocks hK hP hD hS (Nat.le_of_ble_eq_true rfl) (Nat.le_of_ble_eq_true rfl) d_M_narrow_252 ⟨⟨_, _, _, Or.inr ⟨k1, k2, k3, ⟨hk1, hk2, hk3, ek1, ek2, ek3⟩, Or.inr ⟨c4, c5, Or.inr ⟨Y, hoY, Or.inr ⟨gb_t e_r14 c15, rfl, rfl, _, lm_ag_nd hN5 (lm_ag_cp hN5 hag39) hag51, rfl, rfl⟩⟩⟩⟩, ⟨_, _, _, _, m0, mR, mE, mD, mO, mM, mP, mA, mB, mC, mL⟩⟩, hfr⟩
                · refine lv_aload_n hx hb d_M_narrow_239 rfl (lv_at hl 2 rfl) ?_
                  refine lv_iconst (v := nI 2) hx hb d_M_narrow_240 (by decide) ?_
                  refine gp_M_48 hF hT hK hP hD hS (fs1 := [.int (nI 2), .int (nI N), .ref (A 1), .ref (A 2), .ref (A 3), .ref (A 4), .ref (A 5), .ref (A 6), .int (nI nm), .ref (A 7), .ref (A 8), .ref (A 9), .ref (A 10)]) m0 rfl rfl (Nat.le_of_ble_eq_true rfl) rfl d_M_narrow_241 (fun w H locs m0 hf hP hD hS => ?_)
                  have mR := hf.at mR (by omega)
                  have mE := hf.at mE (by omega)
                  have mD := hf.at mD (by omega)
                  have mO := hf.at mO (by omega)
                  have mM := hf.at mM (by omega)
                  have mP := hf.at mP (by omega)
                  have mA := hf.at mA (by omega)
                  have mB := hf.at mB (by omega)
                  have mC := hf.at mC (by omega)
                  have mL := hf.at mL (by omega)
                  have hfr := hfr.in hf (by omega) (by omega)
                  refine lv_iconst (v := nI 0) hx hb d_M_narrow_244 (by decide) ?_
                  exact gw_iret hx hb hr hlocks hK hP hD hS (Nat.le_of_ble_eq_true rfl) (Nat.le_of_ble_eq_true rfl) d_M_narrow_245 ⟨⟨_, _, _, Or.inr ⟨k1, k2, k3, ⟨hk1, hk2, hk3, ek1, ek2, ek3⟩, Or.inr ⟨c4, c5, Or.inr ⟨Y, hoY, Or.inl ⟨gb_f e_r14 c15, rfl, rfl, rfl, rfl⟩⟩⟩⟩, ⟨_, _, _, _, m0, mR, mE, mD, mO, mM, mP, mA, mB, mC, mL⟩⟩, hfr⟩
              · refine lv_aload_n hx hb d_M_narrow_225 rfl (lv_at hl 2 rfl) ?_
                refine lv_iload_n hx hb d_M_narrow_226 rfl (lv_at hl 3 rfl) ?_
                refine gw_cv (gc_M_73 (As := [.int (nI k1)]) (rest := []) hF hT (c_M_none m0 mR mE hN1 hN5 (u := k1) (by omega)) ⟨(Nat.le_of_ble_eq_true rfl), (Nat.le_of_ble_eq_true rfl)⟩ rfl rfl hK hN hP hD m0 rfl hl.1 rfl (Nat.le_of_ble_eq_true rfl) d_M_narrow_227 ⟨(Nat.le_of_ble_eq_true rfl), (Nat.le_of_ble_eq_true rfl)⟩) hD hS hA (fun w H locs hw hP hD hS => ?_)
                obtain ⟨⟨mR, mE⟩, hf⟩ := hw
                have m0 := hf.at m0 (by omega)
                have mD := hf.at mD (by omega)
                have mO := hf.at mO (by omega)
                have mM := hf.at mM (by omega)
                have mP := hf.at mP (by omega)
                have mA := hf.at mA (by omega)
                have mB := hf.at mB (by omega)
                have mC := hf.at mC (by omega)
                have mL := hf.at mL (by omega)
                have hfr := hfr.in hf (by omega) (by omega)
                refine lv_iconst (v := nI 0) hx hb d_M_narrow_230 (by decide) ?_
                exact gw_iret hx hb hr hlocks hK hP hD hS (Nat.le_of_ble_eq_true rfl) (Nat.le_of_ble_eq_true rfl) d_M_narrow_231 ⟨⟨_, _, _, Or.inr ⟨k1, k2, k3, ⟨hk1, hk2, hk3, ek1, ek2, ek3⟩, Or.inr ⟨c4, c5, Or.inl ⟨h_r11.n c13, rfl, rfl, rfl, rfl⟩⟩⟩, ⟨_, _, _, _, m0, mR, mE, mD, mO, mM, mP, mA, mB, mC, mL⟩⟩, hfr⟩
            · have c10 : ¬ (2 * N ≤ (2 * N)) := fun z => c10 ((nI_leI (a := (2 * N)) (b := (2 * N)) (by omega) (by omega)).mpr z)
              exfalso; omega
          | succ dd ih_59 =>
            intro i e_i w H locs ls m0 mR mE mD mO mM mP mA mB mC mL hfr hP hD hS hl
            refine lv_iload hx hb d_M_narrow_59 (lv_at hl 0 rfl) ?_
            refine lv_iconst (v := nI 2) hx hb d_M_narrow_61 (by decide) ?_
            refine lv_aload_n hx hb d_M_narrow_62 rfl (lv_at hl 2 rfl) ?_
            refine gf_M_42 hF hT hK hP m0 rfl d_M_narrow_63 ?_
            refine lv_imul hx hb d_M_narrow_66 ?_
            refine gx_i (y := nI (2 * N)) (pk_mul _ _) ?_
            refine lv_icmp_ge (tgt := 218) hx hb d_M_narrow_67 (by decide) (fun c16 => ?_) (fun c16 => ?_)
            · have c16 := (nI_leI (a := (2 * N)) (b := i) (by omega) (by omega)).mp c16
              exfalso; omega
            · have c16 : ¬ (2 * N ≤ i) := fun z => c16 ((nI_leI (a := (2 * N)) (b := i) (by omega) (by omega)).mpr z)
              refine lv_iconst (v := nI 0) hx hb d_M_narrow_70 (by decide) ?_
              refine lv_istore (lv' := [(6, .int (nI 0)), (5, .int (nI i)), (4, .int r8), (0, .ref (A 0)), (1, .int (nI k1)), (2, .int (nI k2)), (3, .int (nI k3))]) hx hb d_M_narrow_71 hl (by decide) rfl (fun ls hl => ?_)
              have lp_73 : ∀ (dd k : Nat), k + dd = (2 * N) → ∀ (w : va_W) (H : Heap) (locs : List Loc) (ls : Array Slot), w[b]? = some (A 0, .inr (3, [.int (nI 0), .int (nI N), .ref (A 1), .ref (A 2), .ref (A 3), .ref (A 4), .ref (A 5), .ref (A 6), .int (nI nm), .ref (A 7), .ref (A 8), .ref (A 9), .ref (A 10)])) → w[b + 1]? = some (A 1, .inl (cJ, 800, .inr (.inl R))) → w[b + 2]? = some (A 2, .inl (cZ, 8, .inl Em)) → w[b + 3]? = some (A 3, .inl (cJ, 100, .inr (.inl F9))) → w[b + 4]? = some (A 4, .inl (cJ, 100, .inr (.inl (lm_cp F7 O)))) → w[b + 5]? = some (A 5, .inl (cJ, 100, .inr (.inl (lm_ndI (lm_cp F7 O) F9 R k2 i k (lm_nd (lm_cp F7 O) F9 R k2 (2 * N) i Md))))) → w[b + 6]? = some (A 6, .inl (cJ, 6, .inr (.inl Pt))) → w[b + 7]? = some (A 7, .inl (cI, 60, .inl nA)) → w[b + 8]? = some (A 8, .inl (cI, 60, .inl nB)) → w[b + 9]? = some (A 9, .inl (cJ, 60, .inr (.inl nC))) → w[b + 10]? = some (A 10, .inl (cZ, 60, .inl Lf)) → gF b (b + 11) ws w → va_P D classes w H → va_D (va_A ws sz) w → va_S (va_A ws sz) s.heap H locs → lv_has ls 12 [(6, .int (nI k)), (5, .int (nI i)), (4, .int r8), (0, .ref (A 0)), (1, .int (nI k1)), (2, .int (nI k2)), (3, .int (nI k3))] → W p l e ({ frames := 4, cells := 0, slots := 0, locals := 74 } : Room) s m ([.ref (A 0), .int x, .int y, .int z] : List Value).toArray below meth c H locs 0 0 (MQ below (va_Qi (fun r w => (∃ th' R' E', lm_narO N R Em CF x y z o th' r R' E' ∧ mS cJ cI cZ w b A N th' nm R' E' Pt nA nB nC) ∧ gF b (b + 11) ws w) (gw_B D classes (gT cJ cI cZ cS) ws sz) (va_A ws sz)) ([.ref (A 0), .int x, .int y, .int z] : List Value).toArray s 0 0 (va_A ws sz)) (F0 m 73 ls []) := by
                intro dd
                induction dd with
                | zero =>
                  intro k e_k w H locs ls m0 mR mE mD mO mM mP mA mB mC mL hfr hP hD hS hl
                  have e0_k : (2 * N) = k := by omega
                  subst e0_k
                  refine lv_iload hx hb d_M_narrow_73 (lv_at hl 0 rfl) ?_
                  refine lv_iconst (v := nI 2) hx hb d_M_narrow_75 (by decide) ?_
                  refine lv_aload_n hx hb d_M_narrow_76 rfl (lv_at hl 3 rfl) ?_
                  refine gf_M_42 hF hT hK hP m0 rfl d_M_narrow_77 ?_
                  refine lv_imul hx hb d_M_narrow_80 ?_
                  refine gx_i (y := nI (2 * N)) (pk_mul _ _) ?_
                  refine lv_icmp_ge (tgt := 212) hx hb d_M_narrow_81 (by decide) (fun c17 => ?_) (fun c17 => ?_)
                  · have c17 := (nI_leI (a := (2 * N)) (b := (2 * N)) (by omega) (by omega)).mp c17
                    refine lv_iinc (v := nI (i + 1)) (lv' := [(5, .int (nI (i + 1))), (6, .int (nI (2 * N))), (4, .int r8), (0, .ref (A 0)), (1, .int (nI k1)), (2, .int (nI k2)), (3, .int (nI k3))]) hx hb d_M_narrow_212 hl (k := 1) rfl (gx_inc _) (by decide) rfl (fun ls hl => ?_)
                    refine lv_goto (tgt := 59) hx hb d_M_narrow_215 (by decide) ?_
                    exact ih_59 (i + 1) (by omega) _ _ _ _ m0 mR mE mD mO mM mP mA mB mC mL hfr hP hD hS (lv_sub hl [0, 2, 3, 4, 5, 6] rfl)
                  · have c17 : ¬ (2 * N ≤ (2 * N)) := fun z => c17 ((nI_leI (a := (2 * N)) (b := (2 * N)) (by omega) (by omega)).mpr z)
                    exfalso; omega
                | succ dd ih_73 =>
                  intro k e_k w H locs ls m0 mR mE mD mO mM mP mA mB mC mL hfr hP hD hS hl
                  refine lv_iload hx hb d_M_narrow_73 (lv_at hl 0 rfl) ?_
                  refine lv_iconst (v := nI 2) hx hb d_M_narrow_75 (by decide) ?_
                  refine lv_aload_n hx hb d_M_narrow_76 rfl (lv_at hl 3 rfl) ?_
                  refine gf_M_42 hF hT hK hP m0 rfl d_M_narrow_77 ?_
                  refine lv_imul hx hb d_M_narrow_80 ?_
                  refine gx_i (y := nI (2 * N)) (pk_mul _ _) ?_
                  refine lv_icmp_ge (tgt := 212) hx hb d_M_narrow_81 (by decide) (fun c18 => ?_) (fun c18 => ?_)
                  · have c18 := (nI_leI (a := (2 * N)) (b := k) (by omega) (by omega)).mp c18
                    exfalso; omega
                  · have c18 : ¬ (2 * N ≤ k) := fun z => c18 ((nI_leI (a := (2 * N)) (b := k) (by omega) (by omega)).mpr z)
                    refine lv_aload_n hx hb d_M_narrow_84 rfl (lv_at hl 3 rfl) ?_
                    refine gf_M_17 hF hT hK hP m0 rfl d_M_narrow_85 ?_
                    refine lv_bipush (v := nI 10) hx hb d_M_narrow_88 (by decide) ?_
                    refine lv_iload hx hb d_M_narrow_90 (lv_at hl 1 rfl) ?_
                    refine lv_imul hx hb d_M_narrow_92 ?_
                    refine gx_i (y := nI (10 * i)) (pk_mul _ _) ?_
                    refine lv_iload hx hb d_M_narrow_93 (lv_at hl 0 rfl) ?_
                    refine lv_iadd hx hb d_M_narrow_95 ?_
                    refine gx_i (y := nI ((10 * i) + k)) (nI_add _ _) ?_
                    refine g_lald (t0 := 0) (k := (10 * i) + k) hx hb hK hP mD rfl (by omega) (by omega) d_M_narrow_96 ?_
                    refine lv_lstore (lv' := [(7, .long (F9 ((10 * i) + k))), (6, .int (nI k)), (5, .int (nI i)), (4, .int r8), (0, .ref (A 0)), (1, .int (nI k1)), (2, .int (nI k2)), (3, .int (nI k3))]) hx hb d_M_narrow_97 hl (by decide) rfl (fun ls hl => ?_)
                    have mg_126 : ∀ (H : Heap) (locs : List Loc), va_P D classes w H → va_D (va_A ws sz) w → va_S (va_A ws sz) s.heap H locs → W p l e ({ frames := 4, cells := 0, slots := 0, locals := 74 } : Room) s m ([.ref (A 0), .int x, .int y, .int z] : List Value).toArray below meth c H locs 0 0 (MQ below (va_Qi (fun r w => (∃ th' R' E', lm_narO N R Em CF x y z o th' r R' E' ∧ mS cJ cI cZ w b A N th' nm R' E' Pt nA nB nC) ∧ gF b (b + 11) ws w) (gw_B D classes (gT cJ cI cZ cS) ws sz) (va_A ws sz)) ([.ref (A 0), .int x, .int y, .int z] : List Value).toArray s 0 0 (va_A ws sz)) (F0 m 126 ls [.long (lm_hv i k (F9 (10 * i + k)))]) := by
                      intro H locs hP hD hS
                      refine lv_lstore (lv' := [(9, .long (lm_hv i k (F9 (10 * i + k)))), (7, .long (F9 ((10 * i) + k))), (6, .int (nI k)), (5, .int (nI i)), (4, .int r8), (0, .ref (A 0)), (1, .int (nI k1)), (2, .int (nI k2)), (3, .int (nI k3))]) hx hb d_M_narrow_126 hl (by decide) rfl (fun ls hl => ?_)
                      have mg_163 : ∀ (H : Heap) (locs : List Loc), va_P D classes w H → va_D (va_A ws sz) w → va_S (va_A ws sz) s.heap H locs → W p l e ({ frames := 4, cells := 0, slots := 0, locals := 74 } : Room) s m ([.ref (A 0), .int x, .int y, .int z] : List Value).toArray below meth c H locs 0 0 (MQ below (va_Qi (fun r w => (∃ th' R' E', lm_narO N R Em CF x y z o th' r R' E' ∧ mS cJ cI cZ w b A N th' nm R' E' Pt nA nB nC) ∧ gF b (b + 11) ws w) (gw_B D classes (gT cJ cI cZ cS) ws sz) (va_A ws sz)) ([.ref (A 0), .int x, .int y, .int z] : List Value).toArray s 0 0 (va_A ws sz)) (F0 m 163 ls [.int (lm_nw i k ((lm_cp F7 O) (10 * i + k)))]) := by
                        intro H locs hP hD hS
                        refine lv_istore (lv' := [(11, .int (lm_nw i k ((lm_cp F7 O) (10 * i + k)))), (9, .long (lm_hv i k (F9 (10 * i + k)))), (7, .long (F9 ((10 * i) + k))), (6, .int (nI k)), (5, .int (nI i)), (4, .int r8), (0, .ref (A 0)), (1, .int (nI k1)), (2, .int (nI k2)), (3, .int (nI k3))]) hx hb d_M_narrow_163 hl (by decide) rfl (fun ls hl => ?_)
                        refine lv_aload_n hx hb d_M_narrow_165 rfl (lv_at hl 6 rfl) ?_
                        refine gf_M_23 hF hT hK hP m0 rfl d_M_narrow_166 ?_
                        refine lv_bipush (v := nI 10) hx hb d_M_narrow_169 (by decide) ?_
                        refine lv_iload hx hb d_M_narrow_171 (lv_at hl 4 rfl) ?_
                        refine lv_imul hx hb d_M_narrow_173 ?_
                        refine gx_i (y := nI (10 * i)) (pk_mul _ _) ?_
                        refine lv_iload hx hb d_M_narrow_174 (lv_at hl 3 rfl) ?_
                        refine lv_iadd hx hb d_M_narrow_176 ?_
                        refine gx_i (y := nI ((10 * i) + k)) (nI_add _ _) ?_
                        have mg_205 : ∀ (H : Heap) (locs : List Loc), va_P D classes w H → va_D (va_A ws sz) w → va_S (va_A ws sz) s.heap H locs → W p l e ({ frames := 4, cells := 0, slots := 0, locals := 74 } : Room) s m ([.ref (A 0), .int x, .int y, .int z] : List Value).toArray below meth c H locs 0 0 (MQ below (va_Qi (fun r w => (∃ th' R' E', lm_narO N R Em CF x y z o th' r R' E' ∧ mS cJ cI cZ w b A N th' nm R' E' Pt nA nB nC) ∧ gF b (b + 11) ws w) (gw_B D classes (gT cJ cI cZ cS) ws sz) (va_A ws sz)) ([.ref (A 0), .int x, .int y, .int z] : List Value).toArray s 0 0 (va_A ws sz)) (F0 m 205 ls [.long (lm_nc i k ((lm_cp F7 O) (10 * i + k)) (lm_hv i k (F9 (10 * i + k))) (R (100 * k2 + 10 * i + k))), .int (nI ((10 * i) + k)), .ref (A 5)]) := by
                          intro H locs hP hD hS
                          refine g_last (t0 := 0) (k := (10 * i) + k) hx hb hK hP hD hS mM rfl (by omega) (by omega) d_M_narrow_205 (fun w H locs mM hf hP hD hS => ?_)
                          have m0 := hf.at m0 (by omega)
                          have mR := hf.at mR (by omega)
                          have mE := hf.at mE (by omega)
                          have mD := hf.at mD (by omega)
                          have mO := hf.at mO (by omega)
                          have mP := hf.at mP (by omega)
                          have mA := hf.at mA (by omega)
                          have mB := hf.at mB (by omega)
                          have mC := hf.at mC (by omega)
                          have mL := hf.at mL (by omega)
                          have hfr := hfr.in hf (by omega) (by omega)
                          refine lv_iinc (v := nI (k + 1)) (lv' := [(6, .int (nI (k + 1))), (11, .int (lm_nw i k ((lm_cp F7 O) (10 * i + k)))), (9, .long (lm_hv i k (F9 (10 * i + k)))), (7, .long (F9 ((10 * i) + k))), (5, .int (nI i)), (4, .int r8), (0, .ref (A 0)), (1, .int (nI k1)), (2, .int (nI k2)), (3, .int (nI k3))]) hx hb d_M_narrow_206 hl (k := 3) rfl (gx_inc _) (by decide) rfl (fun ls hl => ?_)
                          refine lv_goto (tgt := 73) hx hb d_M_narrow_209 (by decide) ?_
                          exact ih_73 (k + 1) (by omega) _ _ _ _ m0 mR mE mD mO mM mP mA mB mC mL hfr hP hD hS (lv_sub hl [0, 4, 5, 6, 7, 8, 9] rfl)
                        refine lv_iload hx hb d_M_narrow_177 (lv_at hl 0 rfl) ?_
                        refine lv_if_eq (tgt := 187) hx hb d_M_narrow_179 (by decide) (fun c19 => ?_) (fun c19 => ?_)
                        · refine lv_aload_n hx hb d_M_narrow_187 rfl (lv_at hl 6 rfl) ?_
                          refine gf_M_7 hF hT hK hP m0 rfl d_M_narrow_188 ?_
                          refine lv_bipush (v := nI 100) hx hb d_M_narrow_191 (by decide) ?_
                          refine lv_iload_n hx hb d_M_narrow_193 rfl (lv_at hl 8 rfl) ?_
                          refine lv_imul hx hb d_M_narrow_194 ?_
                          refine gx_i (y := nI (100 * k2)) (pk_mul _ _) ?_
                          refine lv_bipush (v := nI 10) hx hb d_M_narrow_195 (by decide) ?_
                          refine lv_iload hx hb d_M_narrow_197 (lv_at hl 4 rfl) ?_
                          refine lv_imul hx hb d_M_narrow_199 ?_
                          refine gx_i (y := nI (10 * i)) (pk_mul _ _) ?_
                          refine lv_iadd hx hb d_M_narrow_200 ?_
                          refine gx_i (y := nI ((100 * k2) + (10 * i))) (nI_add _ _) ?_
                          refine lv_iload hx hb d_M_narrow_201 (lv_at hl 3 rfl) ?_
                          refine lv_iadd hx hb d_M_narrow_203 ?_
                          refine gx_i (y := nI (((100 * k2) + (10 * i)) + k)) (nI_add _ _) ?_
                          refine g_lald (t0 := 0) (k := ((100 * k2) + (10 * i)) + k) hx hb hK hP mR rfl (by omega) (by omega) d_M_narrow_204 ?_
                          exact gx_l (y := lm_nc i k ((lm_cp F7 O) (10 * i + k)) (lm_hv i k (F9 (10 * i + k))) (R (100 * k2 + 10 * i + k))) (by unfold lm_nc; rw [if_pos c19]) (mg_205 _ _ hP hD hS)
                        · refine lv_lload hx hb d_M_narrow_182 (lv_at hl 1 rfl) ?_
                          refine lv_goto (tgt := 205) hx hb d_M_narrow_184 (by decide) ?_
                          exact gx_l (y := lm_nc i k ((lm_cp F7 O) (10 * i + k)) (lm_hv i k (F9 (10 * i + k))) (R (100 * k2 + 10 * i + k))) (by unfold lm_nc; rw [if_neg c19]) (mg_205 _ _ hP hD hS)
                      refine lv_aload_n hx hb d_M_narrow_128 rfl (lv_at hl 5 rfl) ?_
                      refine gf_M_20 hF hT hK hP m0 rfl d_M_narrow_129 ?_
                      refine lv_bipush (v := nI 10) hx hb d_M_narrow_132 (by decide) ?_
                      refine lv_iload hx hb d_M_narrow_134 (lv_at hl 3 rfl) ?_
                      refine lv_imul hx hb d_M_narrow_136 ?_
                      refine gx_i (y := nI (10 * i)) (pk_mul _ _) ?_
                      refine lv_iload hx hb d_M_narrow_137 (lv_at hl 2 rfl) ?_
                      refine lv_iadd hx hb d_M_narrow_139 ?_
                      refine gx_i (y := nI ((10 * i) + k)) (nI_add _ _) ?_
                      refine g_lald (t0 := 0) (k := (10 * i) + k) hx hb hK hP mO rfl (by omega) (by omega) d_M_narrow_140 ?_
                      refine lv_ldc2 (v := lr_E) hx hb hown (hts _ (hT _ wm_3_124)) d_M_narrow_141 ?_
                      refine gx_lne (tgt := 162) hx hb d_M_narrow_144 d_M_narrow_145 (by decide) (fun c20 => ?_) (fun c20 => ?_)
                      · refine lv_iconst (v := nI 0) hx hb d_M_narrow_162 (by decide) ?_
                        exact gx_i (y := lm_nw i k ((lm_cp F7 O) (10 * i + k))) (by unfold lm_nw; rw [if_neg c20]) (mg_163 _ _ hP hD hS)
                      · refine lv_iload hx hb d_M_narrow_148 (lv_at hl 2 rfl) ?_
                        refine lv_iload hx hb d_M_narrow_150 (lv_at hl 3 rfl) ?_
                        refine gw_ci0 (gc_M_53 (As := [.int (nI i)]) (rest := [.int (nI k)]) hF hT (c_M_opposite (by omega)) ⟨(Nat.le_of_ble_eq_true rfl), (Nat.le_of_ble_eq_true rfl)⟩ rfl rfl hK hN hP hD rfl hl.1 rfl (Nat.le_of_ble_eq_true rfl) d_M_narrow_152 ⟨(Nat.le_of_ble_eq_true rfl), (Nat.le_of_ble_eq_true rfl)⟩) hD hS hA (fun r21 H locs e_r21 hP hD hS => ?_)
                        subst e_r21
                        have hop := lr_op_ev (x := 5) (i := i) (by omega)
                        refine lv_icmp_eq (tgt := 162) hx hb d_M_narrow_155 (by decide) (fun c22 => ?_) (fun c22 => ?_)
                        · have c22 := (nI_eq (a := k) (b := (lr_op i)) (by omega) (by omega)).mp c22
                          refine lv_iconst (v := nI 0) hx hb d_M_narrow_162 (by decide) ?_
                          exact gx_i (y := lm_nw i k ((lm_cp F7 O) (10 * i + k))) (by unfold lm_nw; rw [if_pos c20, if_pos c22]) (mg_163 _ _ hP hD hS)
                        · have c22 : ¬ (k = lr_op i) := fun z => c22 ((nI_eq (a := k) (b := (lr_op i)) (by omega) (by omega)).mpr z)
                          refine lv_iconst (v := nI 1) hx hb d_M_narrow_158 (by decide) ?_
                          refine lv_goto (tgt := 163) hx hb d_M_narrow_159 (by decide) ?_
                          exact gx_i (y := lm_nw i k ((lm_cp F7 O) (10 * i + k))) (by unfold lm_nw; rw [if_pos c20, if_neg c22]) (mg_163 _ _ hP hD hS)
                    refine lv_iload hx hb d_M_narrow_99 (lv_at hl 2 rfl) ?_
                    refine lv_iload hx hb d_M_narrow_101 (lv_at hl 1 rfl) ?_
                    refine lv_icmp_ne (tgt := 124) hx hb d_M_narrow_103 (by decide) (fun c23 => ?_) (fun c23 => ?_)
                    · have c23 : ¬ (i = k) := fun z => c23 ((nI_eq (a := i) (b := k) (by omega) (by omega)).mpr z)
                      refine lv_lload hx hb d_M_narrow_124 (lv_at hl 0 rfl) ?_
                      exact gx_l (y := lm_hv i k (F9 (10 * i + k))) (by unfold lm_hv; rw [if_neg c23]) (mg_126 _ _ hP hD hS)
                    · have c23 := (nI_eq (a := i) (b := k) (by omega) (by omega)).mp c23
                      refine lv_lload hx hb d_M_narrow_106 (lv_at hl 0 rfl) ?_
                      refine lv_ldc2 (v := lr_E) hx hb hown (hts _ (hT _ wm_3_124)) d_M_narrow_108 ?_
                      refine gx_leq (tgt := 124) hx hb d_M_narrow_111 d_M_narrow_112 (by decide) (fun c24 => ?_) (fun c24 => ?_)
                      · refine lv_lload hx hb d_M_narrow_124 (lv_at hl 0 rfl) ?_
                        exact gx_l (y := lm_hv i k (F9 (10 * i + k))) (by unfold lm_hv; rw [if_pos c23, if_pos c24]) (mg_126 _ _ hP hD hS)
                      · refine lv_lload hx hb d_M_narrow_115 (lv_at hl 0 rfl) ?_
                        refine lv_ldc2 (v := (2 : Int64)) hx hb hown (hts _ (hT _ wm_3_202)) d_M_narrow_117 ?_
                        refine lv_ldiv hx hb d_M_narrow_120 (by decide) ?_
                        refine lv_goto (tgt := 126) hx hb d_M_narrow_121 (by decide) ?_
                        exact gx_l (y := lm_hv i k (F9 (10 * i + k))) (by unfold lm_hv; rw [if_pos c23, if_neg c24]) (mg_126 _ _ hP hD hS)
              exact lp_73 (2 * N) 0 (by omega) _ _ _ _ m0 mR mE mD mO mM mP mA mB mC mL hfr hP hD hS (lv_sub hl [0, 1, 2, 3, 4, 5, 6] rfl)
        exact lp_59 (2 * N) 0 (by omega) _ _ _ _ m0 mR mE mD mO mM mP mA mB mC mL hfr hP hD hS (lv_sub hl [0, 1, 2, 3, 4, 5] rfl)
      · refine lv_aload_n hx hb d_M_narrow_30 rfl (lv_at hl 0 rfl) ?_
        refine lv_iload_n hx hb d_M_narrow_31 rfl (lv_at hl 1 rfl) ?_
        refine gw_cv (gc_M_73 (As := [.int (nI k1)]) (rest := []) hF hT (c_M_none m0 mR mE hN1 hN5 (u := k1) (by omega)) ⟨(Nat.le_of_ble_eq_true rfl), (Nat.le_of_ble_eq_true rfl)⟩ rfl rfl hK hN hP hD m0 rfl hl.1 rfl (Nat.le_of_ble_eq_true rfl) d_M_narrow_32 ⟨(Nat.le_of_ble_eq_true rfl), (Nat.le_of_ble_eq_true rfl)⟩) hD hS hA (fun w H locs hw hP hD hS => ?_)
        obtain ⟨⟨mR, mE⟩, hf⟩ := hw
        have m0 := hf.at m0 (by omega)
        have mD := hf.at mD (by omega)
        have mO := hf.at mO (by omega)
        have mM := hf.at mM (by omega)
        have mP := hf.at mP (by omega)
        have mA := hf.at mA (by omega)
        have mB := hf.at mB (by omega)
        have mC := hf.at mC (by omega)
        have mL := hf.at mL (by omega)
        have hfr := hfr.in hf (by omega) (by omega)
        refine lv_iconst (v := nI 0) hx hb d_M_narrow_35 (by decide) ?_
        exact gw_iret hx hb hr hlocks hK hP hD hS (Nat.le_of_ble_eq_true rfl) (Nat.le_of_ble_eq_true rfl) d_M_narrow_36 ⟨⟨_, _, _, Or.inr ⟨k1, k2, k3, ⟨hk1, hk2, hk3, ek1, ek2, ek3⟩, Or.inl ⟨Or.inr c5, rfl, rfl, rfl, rfl⟩⟩, ⟨_, _, _, _, m0, mR, mE, mD, mO, mM, mP, mA, mB, mC, mL⟩⟩, hfr⟩
  · obtain ⟨hno, hth⟩ := h_r1.n c3
    subst hth
    refine lv_iconst (v := nI 0) hx hb d_M_narrow_10 (by decide) ?_
    exact gw_iret hx hb hr hlocks hK hP hD hS (Nat.le_of_ble_eq_true rfl) (Nat.le_of_ble_eq_true rfl) d_M_narrow_11 ⟨⟨_, _, _, Or.inl ⟨hno, rfl, rfl, rfl⟩, ⟨_, _, _, _, m0, mR, mE, mD, mO, mM, mP, mA, mB, mC, mL⟩⟩, hfr⟩

set_option maxHeartbeats 4000000 in
set_option maxRecDepth 100000 in
theorem c_M_copy {l : Launch} {D : va_G} {cJ cI cZ cS : ClassId} {ws : va_W} {sz : Nat} {b N nm : Nat} {A : Nat → Nat} {th : Int32} {R Pt nC : Nat → Int64} {Em nA nB : Nat → Int32} (hM : mS cJ cI cZ ws b A N th nm R Em Pt nA nB nC) (hN1 : 1 ≤ N) (hN5 : N ≤ 5) (hE : ∀ k, k < 8 → Em k = 0 ∨ Em k = 1) {x y : Int32} : Met l y_M_copy w_M_copy ({ frames := 3, cells := 0, slots := 0, locals := 44 } : Room) (gw_Pc D classes (gT cJ cI cZ cS) [.ref (A 0), .int x, .int y] ws sz) (va_Qv (fun w => (∃ th' R' E', ((¬ (okS x ∧ okS y) ∧ th' = nI 1 ∧ R' = R ∧ E' = Em) ∨ (∃ k1 k2, k1 < 8 ∧ k2 < 8 ∧ x = nI k1 ∧ y = nI k2 ∧ th' = nI 0 ∧ R' = lm_cpR R k1 k2 ∧ E' = upd Em k1 (Em k2))) ∧ mS cJ cI cZ w b A N th' nm R' E' Pt nA nB nC) ∧ gF b (b + 11) ws w) (gw_B D classes (gT cJ cI cZ cS) ws sz) (va_A ws sz)) 0 0 (va_A ws sz) := by
  refine gw_head (by decide) (Nat.le_of_ble_eq_true rfl) (fun p e s m below meth c hsz hx hb hr hlocks hml hown hnm hts hK hN hP hD hS hA ls hl => ?_)
  have hown : s.vm.findClass R_M = some m.cls := hown
  have hT : ∀ w ∈ wG, w ∈ Cond.code y_M_copy b_M_copy 3 none :: wG := gd_t _
  have hF : CallFix p m c b_M_copy 3 s ([.ref (A 0), .int x, .int y] : List Value).toArray (Cond.code y_M_copy b_M_copy 3 none :: wG) R_M := ⟨hx, hb, hml, hown, hts⟩
  have hl : lv_has ls 3 [(0, .ref (A 0)), (1, .int x), (2, .int y)] := hl
  obtain ⟨D0, O, Md, Lf, m0, mR, mE, mD, mO, mM, mP, mA, mB, mC, mL⟩ := hM
  have hfr : gF b (b + 11) ws ws := gF.rf
  refine lv_aload_n hx hb d_M_copy_0 rfl (lv_at hl 0 rfl) ?_
  refine lv_iload_n hx hb d_M_copy_1 rfl (lv_at hl 1 rfl) ?_
  refine lv_iload_n hx hb d_M_copy_2 rfl (lv_at hl 2 rfl) ?_
  refine lv_iload_n hx hb d_M_copy_3 rfl (lv_at hl 2 rfl) ?_
  refine gw_ci (gc_M_110 (As := [.int x, .int y, .int y]) (rest := []) hF hT (c_M_areShapes m0 hN1 hN5) ⟨(Nat.le_of_ble_eq_true rfl), (Nat.le_of_ble_eq_true rfl)⟩ rfl rfl hK hN hP hD m0 rfl hl.1 rfl (Nat.le_of_ble_eq_true rfl) d_M_copy_4 ⟨(Nat.le_of_ble_eq_true rfl), (Nat.le_of_ble_eq_true rfl)⟩) hD hS hA (fun r1 w H locs hw hP hD hS => ?_)
  obtain ⟨⟨th2, m0, h_r1⟩, hf⟩ := hw
  have mR := hf.at mR (by omega)
  have mE := hf.at mE (by omega)
  have mD := hf.at mD (by omega)
  have mO := hf.at mO (by omega)
  have mM := hf.at mM (by omega)
  have mP := hf.at mP (by omega)
  have mA := hf.at mA (by omega)
  have mB := hf.at mB (by omega)
  have mC := hf.at mC (by omega)
  have mL := hf.at mL (by omega)
  have hfr := hfr.in hf (by omega) (by omega)
  refine lv_if_eq (tgt := 16) hx hb d_M_copy_7 (by decide) (fun c3 => ?_) (fun c3 => ?_)
  · obtain ⟨hno, hth⟩ := h_r1.n c3
    subst hth
    exact gw_vret hx hb hr hlocks hK hP hD hS (Nat.le_of_ble_eq_true rfl) (Nat.le_of_ble_eq_true rfl) d_M_copy_16 ⟨⟨_, _, _, Or.inl ⟨fun q => hno ⟨q.1, q.2, q.2⟩, rfl, rfl, rfl⟩, ⟨_, _, _, _, m0, mR, mE, mD, mO, mM, mP, mA, mB, mC, mL⟩⟩, hfr⟩
  · obtain ⟨⟨hs1, hs2, hs3⟩, hth⟩ := h_r1.y c3
    subst hth
    obtain ⟨k1, hk1, ek1⟩ := hs1.k
    rw [ek1] at hl
    obtain ⟨k2, hk2, ek2⟩ := hs2.k
    rw [ek2] at hl
    refine lv_aload_n hx hb d_M_copy_10 rfl (lv_at hl 0 rfl) ?_
    refine lv_iload_n hx hb d_M_copy_11 rfl (lv_at hl 1 rfl) ?_
    refine lv_iload_n hx hb d_M_copy_12 rfl (lv_at hl 2 rfl) ?_
    refine gw_cv (gc_M_122 (As := [.int (nI k1), .int (nI k2)]) (rest := []) hF hT (c_M_copyRows m0 mR mE hN1 hN5 (t := k1) (u := k2) (by omega) (by omega) hE) ⟨(Nat.le_of_ble_eq_true rfl), (Nat.le_of_ble_eq_true rfl)⟩ rfl rfl hK hN hP hD m0 rfl hl.1 rfl (Nat.le_of_ble_eq_true rfl) d_M_copy_13 ⟨(Nat.le_of_ble_eq_true rfl), (Nat.le_of_ble_eq_true rfl)⟩) hD hS hA (fun w H locs hw hP hD hS => ?_)
    obtain ⟨⟨mR, mE⟩, hf⟩ := hw
    have m0 := hf.at m0 (by omega)
    have mD := hf.at mD (by omega)
    have mO := hf.at mO (by omega)
    have mM := hf.at mM (by omega)
    have mP := hf.at mP (by omega)
    have mA := hf.at mA (by omega)
    have mB := hf.at mB (by omega)
    have mC := hf.at mC (by omega)
    have mL := hf.at mL (by omega)
    have hfr := hfr.in hf (by omega) (by omega)
    exact gw_vret hx hb hr hlocks hK hP hD hS (Nat.le_of_ble_eq_true rfl) (Nat.le_of_ble_eq_true rfl) d_M_copy_16 ⟨⟨_, _, _, Or.inr ⟨k1, k2, hk1, hk2, ek1, ek2, rfl, rfl, rfl⟩, ⟨_, _, _, _, m0, mR, mE, mD, mO, mM, mP, mA, mB, mC, mL⟩⟩, hfr⟩
