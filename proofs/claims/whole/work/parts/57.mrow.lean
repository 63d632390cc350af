set_option maxHeartbeats 4000000 in
set_option maxRecDepth 100000 in
theorem c_M_all {l : Launch} {D : va_G} {cJ cI cZ cS : ClassId} {ws : va_W} {sz : Nat} {b N nm : Nat} {A : Nat → Nat} {th : Int32} {R Pt nC : Nat → Int64} {Em nA nB : Nat → Int32} (hM : mS cJ cI cZ ws b A N th nm R Em Pt nA nB nC) (hN1 : 1 ≤ N) (hN5 : N ≤ 5) {x : Int32} : Met l y_M_all w_M_all ({ frames := 2, cells := 0, slots := 0, locals := 22 } : Room) (gw_Pc D classes (gT cJ cI cZ cS) [.ref (A 0), .int x] ws sz) (va_Qv (fun w => (∃ th' R' E', ((¬ okS x ∧ th' = nI 1 ∧ R' = R ∧ E' = Em) ∨ (∃ k, k < 8 ∧ x = nI k ∧ th' = nI 0 ∧ R' = lm_none R k ∧ E' = upd (upd Em k (nI 1)) k (nI 0))) ∧ mS cJ cI cZ w b A N th' nm R' E' Pt nA nB nC) ∧ gF b (b + 11) ws w) (gw_B D classes (gT cJ cI cZ cS) ws sz) (va_A ws sz)) 0 0 (va_A ws sz) := by
  refine gw_head (by decide) (Nat.le_of_ble_eq_true rfl) (fun p e s m below meth c hsz hx hb hr hlocks hml hown hnm hts hK hN hP hD hS hA ls hl => ?_)
  have hown : s.vm.findClass R_M = some m.cls := hown
  have hT : ∀ w ∈ wG, w ∈ Cond.code y_M_all b_M_all 2 none :: wG := gd_t _
  have hF : CallFix p m c b_M_all 2 s ([.ref (A 0), .int x] : List Value).toArray (Cond.code y_M_all b_M_all 2 none :: wG) R_M := ⟨hx, hb, hml, hown, hts⟩
  have hl : lv_has ls 2 [(0, .ref (A 0)), (1, .int x)] := hl
  obtain ⟨D0, O, Md, Lf, m0, mR, mE, mD, mO, mM, mP, mA, mB, mC, mL⟩ := hM
  have hfr : gF b (b + 11) ws ws := gF.rf
  refine lv_aload_n hx hb d_M_all_0 rfl (lv_at hl 0 rfl) ?_
  refine lv_aload_n hx hb d_M_all_1 rfl (lv_at hl 0 rfl) ?_
  refine lv_iload_n hx hb d_M_all_2 rfl (lv_at hl 1 rfl) ?_
  refine gw_ci0 (gc_M_83 (As := [.int x]) (rest := [.ref (A 0)]) hF hT (c_M_isShape m0 hN1 hN5) ⟨(Nat.le_of_ble_eq_true rfl), (Nat.le_of_ble_eq_true rfl)⟩ rfl rfl hK hN hP hD m0 rfl hl.1 rfl (Nat.le_of_ble_eq_true rfl) d_M_all_3 ⟨(Nat.le_of_ble_eq_true rfl), (Nat.le_of_ble_eq_true rfl)⟩) hD hS hA (fun r1 H locs e_r1 hP hD hS => ?_)
  refine lv_if_eq (tgt := 13) hx hb d_M_all_6 (by decide) (fun c2 => ?_) (fun c2 => ?_)
  · refine lv_iconst (v := nI 1) hx hb d_M_all_13 (by decide) ?_
    refine gp_M_48 hF hT hK hP hD hS (fs1 := [.int (nI 1), .int (nI N), .ref (A 1), .ref (A 2), .ref (A 3), .ref (A 4), .ref (A 5), .ref (A 6), .int (nI nm), .ref (A 7), .ref (A 8), .ref (A 9), .ref (A 10)]) m0 rfl rfl (Nat.le_of_ble_eq_true rfl) rfl d_M_all_14 (fun w H locs m0 hf hP hD hS => ?_)
    have mR := hf.at mR (by omega)
    have mE := hf.at mE (by omega)
    have mD := hf.at mD (by omega)
    have mO := hf.at mO (by omega)
    have mM := hf.at mM (by omega)
    have mP := hf.at mP (by omega)
    have mA := hf.at mA (by omega)
    have mB := hf.at mB (by omega)
    have mC := hf.at mC (by omega)
    have mL := hf.at mL (by omega)
    have hfr := hfr.in hf (by omega) (by omega)
    refine lv_aload_n hx hb d_M_all_17 rfl (lv_at hl 0 rfl) ?_
    refine gf_M_48 hF hT hK hP m0 rfl d_M_all_18 ?_
    refine lv_if_ne (tgt := 36) hx hb d_M_all_21 (by decide) (fun c3 => ?_) (fun c3 => ?_)
    · have c3 : ¬ (1 = 0) := fun z => c3 ((nI_eq (a := 1) (b := 0) (by omega) (by omega)).mpr z)
      exact gw_vret hx hb hr hlocks hK hP hD hS (Nat.le_of_ble_eq_true rfl) (Nat.le_of_ble_eq_true rfl) d_M_all_36 ⟨⟨_, _, _, Or.inl ⟨fun q => gb_t e_r1 c2 q, rfl, rfl, rfl⟩, ⟨_, _, _, _, m0, mR, mE, mD, mO, mM, mP, mA, mB, mC, mL⟩⟩, hfr⟩
    · have c3 := (nI_eq (a := 1) (b := 0) (by omega) (by omega)).mp c3
      exfalso; omega
  · have hq_x := gb_f e_r1 c2
    obtain ⟨k, hk, ek⟩ := hq_x.k
    rw [ek] at hl
    refine lv_iconst (v := nI 0) hx hb d_M_all_9 (by decide) ?_
    refine lv_goto (tgt := 14) hx hb d_M_all_10 (by decide) ?_
    refine gp_M_48 hF hT hK hP hD hS (fs1 := [.int (nI 0), .int (nI N), .ref (A 1), .ref (A 2), .ref (A 3), .ref (A 4), .ref (A 5), .ref (A 6), .int (nI nm), .ref (A 7), .ref (A 8), .ref (A 9), .ref (A 10)]) m0 rfl rfl (Nat.le_of_ble_eq_true rfl) rfl d_M_all_14 (fun w H locs m0 hf hP hD hS => ?_)
    have mR := hf.at mR (by omega)
    have mE := hf.at mE (by omega)
    have mD := hf.at mD (by omega)
    have mO := hf.at mO (by omega)
    have mM := hf.at mM (by omega)
    have mP := hf.at mP (by omega)
    have mA := hf.at mA (by omega)
    have mB := hf.at mB (by omega)
    have mC := hf.at mC (by omega)
    have mL := hf.at mL (by omega)
    have hfr := hfr.in hf (by omega) (by omega)
    refine lv_aload_n hx hb d_M_all_17 rfl (lv_at hl 0 rfl) ?_
    refine gf_M_48 hF hT hK hP m0 rfl d_M_all_18 ?_
    refine lv_if_ne (tgt := 36) hx hb d_M_all_21 (by decide) (fun c4 => ?_) (fun c4 => ?_)
    · have c4 : ¬ (0 = 0) := fun z => c4 ((nI_eq (a := 0) (b := 0) (by omega) (by omega)).mpr z)
      exfalso; omega
    · have c4 := (nI_eq (a := 0) (b := 0) (by omega) (by omega)).mp c4
      refine lv_aload_n hx hb d_M_all_24 rfl (lv_at hl 0 rfl) ?_
      refine lv_iload_n hx hb d_M_all_25 rfl (lv_at hl 1 rfl) ?_
      refine gw_cv (gc_M_73 (As := [.int (nI k)]) (rest := []) hF hT (c_M_none m0 mR mE hN1 hN5 (u := k) (by omega)) ⟨(Nat.le_of_ble_eq_true rfl), (Nat.le_of_ble_eq_true rfl)⟩ rfl rfl hK hN hP hD m0 rfl hl.1 rfl (Nat.le_of_ble_eq_true rfl) d_M_all_26 ⟨(Nat.le_of_ble_eq_true rfl), (Nat.le_of_ble_eq_true rfl)⟩) hD hS hA (fun w H locs hw hP hD hS => ?_)
      obtain ⟨⟨mR, mE⟩, hf⟩ := hw
      have m0 := hf.at m0 (by omega)
      have mD := hf.at mD (by omega)
      have mO := hf.at mO (by omega)
      have mM := hf.at mM (by omega)
      have mP := hf.at mP (by omega)
      have mA := hf.at mA (by omega)
      have mB := hf.at mB (by omega)
      have mC := hf.at mC (by omega)
      have mL := hf.at mL (by omega)
      have hfr := hfr.in hf (by omega) (by omega)
      refine lv_aload_n hx hb d_M_all_29 rfl (lv_at hl 0 rfl) ?_
      refine gf_M_13 hF hT hK hP m0 rfl d_M_all_30 ?_
      refine lv_iload_n hx hb d_M_all_33 rfl (lv_at hl 1 rfl) ?_
      refine lv_iconst (v := nI 0) hx hb d_M_all_34 (by decide) ?_
      refine g_zast (t0 := 2) (k := k) hx hb hK hP hD hS mE rfl (by omega) (by omega) (Or.inl rfl) d_M_all_35 (fun w H locs mE hf hP hD hS => ?_)
      have m0 := hf.at m0 (by omega)
      have mR := hf.at mR (by omega)
      have mD := hf.at mD (by omega)
      have mO := hf.at mO (by omega)
      have mM := hf.at mM (by omega)
      have mP := hf.at mP (by omega)
      have mA := hf.at mA (by omega)
      have mB := hf.at mB (by omega)
      have mC := hf.at mC (by omega)
      have mL := hf.at mL (by omega)
      have hfr := hfr.in hf (by omega) (by omega)
      exact gw_vret hx hb hr hlocks hK hP hD hS (Nat.le_of_ble_eq_true rfl) (Nat.le_of_ble_eq_true rfl) d_M_all_36 ⟨⟨_, _, _, Or.inr ⟨k, hk, ek, rfl, rfl, rfl⟩, ⟨_, _, _, _, m0, mR, mE, mD, mO, mM, mP, mA, mB, mC, mL⟩⟩, hfr⟩

set_option maxHeartbeats 4000000 in
set_option maxRecDepth 100000 in
theorem c_M_row {l : Launch} {D : va_G} {cJ cI cZ cS : ClassId} {ws : va_W} {sz : Nat} {b N nm : Nat} {A : Nat → Nat} {th : Int32} {R Pt nC : Nat → Int64} {Em nA nB : Nat → Int32} (hM : mS cJ cI cZ ws b A N th nm R Em Pt nA nB nC) (hN1 : 1 ≤ N) (hN5 : N ≤ 5) {o : Option (Nat → Nat → Int64)} {x y z : Int32} {v : Int64} (hc : ∀ k, k < 8 → x = nI k → Em k = 0 → okT N y → okT N z → okG v → ¬ y = -z → lm_Cl N (lm_mx (lm_rowR R k y z v) k) o) : Met l y_M_row w_M_row ({ frames := 4, cells := 0, slots := 0, locals := 71 } : Room) (gw_Pc D classes (gT cJ cI cZ cS) [.ref (A 0), .int x, .int y, .int z, .long v] ws sz) (va_Qi (fun r w => (∃ th' R' E', lm_rowO N R Em x y z v o th' r R' E' ∧ mS cJ cI cZ w b A N th' nm R' E' Pt nA nB nC) ∧ gF b (b + 11) ws w) (gw_B D classes (gT cJ cI cZ cS) ws sz) (va_A ws sz)) 0 0 (va_A ws sz) := by
  refine gw_head (by decide) (Nat.le_of_ble_eq_true rfl) (fun p e s m below meth c hsz hx hb hr hlocks hml hown hnm hts hK hN hP hD hS hA ls hl => ?_)
  have hown : s.vm.findClass R_M = some m.cls := hown
  have hT : ∀ w ∈ wG, w ∈ Cond.code y_M_row b_M_row 12 (some .int) :: wG := gd_t _
  have hF : CallFix p m c b_M_row 12 s ([.ref (A 0), .int x, .int y, .int z, .long v] : List Value).toArray (Cond.code y_M_row b_M_row 12 (some .int) :: wG) R_M := ⟨hx, hb, hml, hown, hts⟩
  have hl : lv_has ls 12 [(0, .ref (A 0)), (1, .int x), (2, .int y), (3, .int z), (4, .long v)] := hl
  obtain ⟨D0, O, Md, Lf, m0, mR, mE, mD, mO, mM, mP, mA, mB, mC, mL⟩ := hM
  have hfr : gF b (b + 11) ws ws := gF.rf
  refine lv_aload_n hx hb d_M_row_0 rfl (lv_at hl 0 rfl) ?_
  refine lv_aload_n hx hb d_M_row_1 rfl (lv_at hl 0 rfl) ?_
  refine lv_iload_n hx hb d_M_row_2 rfl (lv_at hl 1 rfl) ?_
  refine gw_ci0 (gc_M_83 (As := [.int x]) (rest := [.ref (A 0)]) hF hT (c_M_isShape m0 hN1 hN5) ⟨(Nat.le_of_ble_eq_true rfl), (Nat.le_of_ble_eq_true rfl)⟩ rfl rfl hK hN hP hD m0 rfl hl.1 rfl (Nat.le_of_ble_eq_true rfl) d_M_row_3 ⟨(Nat.le_of_ble_eq_true rfl), (Nat.le_of_ble_eq_true rfl)⟩) hD hS hA (fun r1 H locs e_r1 hP hD hS => ?_)
  refine lv_if_eq (tgt := 25) hx hb d_M_row_6 (by decide) (fun c2 => ?_) (fun c2 => ?_)
  · refine lv_iconst (v := nI 1) hx hb d_M_row_25 (by decide) ?_
    refine lv_goto (tgt := 42) hx hb d_M_row_26 (by decide) ?_
    refine gp_M_48 hF hT hK hP hD hS (fs1 := [.int (nI 1), .int (nI N), .ref (A 1), .ref (A 2), .ref (A 3), .ref (A 4), .ref (A 5), .ref (A 6), .int (nI nm), .ref (A 7), .ref (A 8), .ref (A 9), .ref (A 10)]) m0 rfl rfl (Nat.le_of_ble_eq_true rfl) rfl d_M_row_42 (fun w H locs m0 hf hP hD hS => ?_)
    have mR := hf.at mR (by omega)
    have mE := hf.at mE (by omega)
    have mD := hf.at mD (by omega)
    have mO := hf.at mO (by omega)
    have mM := hf.at mM (by omega)
    have mP := hf.at mP (by omega)
    have mA := hf.at mA (by omega)
    have mB := hf.at mB (by omega)
    have mC := hf.at mC (by omega)
    have mL := hf.at mL (by omega)
    have hfr := hfr.in hf (by omega) (by omega)
    refine lv_aload_n hx hb d_M_row_45 rfl (lv_at hl 0 rfl) ?_
    refine gf_M_48 hF hT hK hP m0 rfl d_M_row_46 ?_
    refine lv_if_gt (tgt := 61) hx hb d_M_row_49 (by decide) (fun c3 => ?_) (fun c3 => ?_)
    · have c3 := (nI_ltI (a := 0) (b := 1) (by omega) (by omega)).mp c3
      refine lv_iconst (v := nI 0) hx hb d_M_row_61 (by decide) ?_
      exact gw_iret hx hb hr hlocks hK hP hD hS (Nat.le_of_ble_eq_true rfl) (Nat.le_of_ble_eq_true rfl) d_M_row_62 ⟨⟨_, _, _, Or.inl ⟨fun q => gb_t e_r1 c2 q.1, rfl, rfl, rfl⟩, ⟨_, _, _, _, m0, mR, mE, mD, mO, mM, mP, mA, mB, mC, mL⟩⟩, hfr⟩
    · have c3 : ¬ (0 < 1) := fun z => c3 ((nI_ltI (a := 0) (b := 1) (by omega) (by omega)).mpr z)
      exfalso; omega
  · have hq_x := gb_f e_r1 c2
    obtain ⟨k, hk, ek⟩ := hq_x.k
    rw [ek] at hl
    refine lv_aload_n hx hb d_M_row_9 rfl (lv_at hl 0 rfl) ?_
    refine lv_iload_n hx hb d_M_row_10 rfl (lv_at hl 2 rfl) ?_
    refine gw_ci0 (gc_M_91 (As := [.int y]) (rest := [.ref (A 0)]) hF hT (c_M_isTerm m0 hN1 hN5) ⟨(Nat.le_of_ble_eq_true rfl), (Nat.le_of_ble_eq_true rfl)⟩ rfl rfl hK hN hP hD m0 rfl hl.1 rfl (Nat.le_of_ble_eq_true rfl) d_M_row_11 ⟨(Nat.le_of_ble_eq_true rfl), (Nat.le_of_ble_eq_true rfl)⟩) hD hS hA (fun r4 H locs e_r4 hP hD hS => ?_)
    refine lv_if_eq (tgt := 25) hx hb d_M_row_14 (by decide) (fun c5 => ?_) (fun c5 => ?_)
    · refine lv_iconst (v := nI 1) hx hb d_M_row_25 (by decide) ?_
      refine lv_goto (tgt := 42) hx hb d_M_row_26 (by decide) ?_
      refine gp_M_48 hF hT hK hP hD hS (fs1 := [.int (nI 1), .int (nI N), .ref (A 1), .ref (A 2), .ref (A 3), .ref (A 4), .ref (A 5), .ref (A 6), .int (nI nm), .ref (A 7), .ref (A 8), .ref (A 9), .ref (A 10)]) m0 rfl rfl (Nat.le_of_ble_eq_true rfl) rfl d_M_row_42 (fun w H locs m0 hf hP hD hS => ?_)
      have mR := hf.at mR (by omega)
      have mE := hf.at mE (by omega)
      have mD := hf.at mD (by omega)
      have mO := hf.at mO (by omega)
      have mM := hf.at mM (by omega)
      have mP := hf.at mP (by omega)
      have mA := hf.at mA (by omega)
      have mB := hf.at mB (by omega)
      have mC := hf.at mC (by omega)
      have mL := hf.at mL (by omega)
      have hfr := hfr.in hf (by omega) (by omega)
      refine lv_aload_n hx hb d_M_row_45 rfl (lv_at hl 0 rfl) ?_
      refine gf_M_48 hF hT hK hP m0 rfl d_M_row_46 ?_
      refine lv_if_gt (tgt := 61) hx hb d_M_row_49 (by decide) (fun c6 => ?_) (fun c6 => ?_)
      · have c6 := (nI_ltI (a := 0) (b := 1) (by omega) (by omega)).mp c6
        refine lv_iconst (v := nI 0) hx hb d_M_row_61 (by decide) ?_
        exact gw_iret hx hb hr hlocks hK hP hD hS (Nat.le_of_ble_eq_true rfl) (Nat.le_of_ble_eq_true rfl) d_M_row_62 ⟨⟨_, _, _, Or.inl ⟨fun q => gb_t e_r4 c5 q.2.1, rfl, rfl, rfl⟩, ⟨_, _, _, _, m0, mR, mE, mD, mO, mM, mP, mA, mB, mC, mL⟩⟩, hfr⟩
      · have c6 : ¬ (0 < 1) := fun z => c6 ((nI_ltI (a := 0) (b := 1) (by omega) (by omega)).mpr z)
        exfalso; omega
    · have hq_y := gb_f e_r4 c5
      have ht_y := hq_y.tm hN5
      refine lv_aload_n hx hb d_M_row_17 rfl (lv_at hl 0 rfl) ?_
      refine lv_iload_n hx hb d_M_row_18 rfl (lv_at hl 3 rfl) ?_
      refine gw_ci0 (gc_M_91 (As := [.int z]) (rest := [.ref (A 0)]) hF hT (c_M_isTerm m0 hN1 hN5) ⟨(Nat.le_of_ble_eq_true rfl), (Nat.le_of_ble_eq_true rfl)⟩ rfl rfl hK hN hP hD m0 rfl hl.1 rfl (Nat.le_of_ble_eq_true rfl) d_M_row_19 ⟨(Nat.le_of_ble_eq_true rfl), (Nat.le_of_ble_eq_true rfl)⟩) hD hS hA (fun r7 H locs e_r7 hP hD hS => ?_)
      refine lv_if_ne (tgt := 29) hx hb d_M_row_22 (by decide) (fun c8 => ?_) (fun c8 => ?_)
      · have hq_z := gb_f e_r7 c8
        have ht_z := hq_z.tm hN5
        refine lv_lload hx hb d_M_row_29 (lv_at hl 4 rfl) ?_
        refine gw_ci0 (gc_M_94 (As := [.long v]) (rest := [.ref (A 0)]) hF hT (c_M_isSmall) ⟨(Nat.le_of_ble_eq_true rfl), (Nat.le_of_ble_eq_true rfl)⟩ rfl rfl hK hN hP hD rfl hl.1 rfl (Nat.le_of_ble_eq_true rfl) d_M_row_31 ⟨(Nat.le_of_ble_eq_true rfl), (Nat.le_of_ble_eq_true rfl)⟩) hD hS hA (fun r9 H locs e_r9 hP hD hS => ?_)
        refine lv_if_ne (tgt := 41) hx hb d_M_row_34 (by decide) (fun c10 => ?_) (fun c10 => ?_)
        · have hq_v := gb_f e_r9 c10
          refine lv_iconst (v := nI 0) hx hb d_M_row_41 (by decide) ?_
          refine gp_M_48 hF hT hK hP hD hS (fs1 := [.int (nI 0), .int (nI N), .ref (A 1), .ref (A 2), .ref (A 3), .ref (A 4), .ref (A 5), .ref (A 6), .int (nI nm), .ref (A 7), .ref (A 8), .ref (A 9), .ref (A 10)]) m0 rfl rfl (Nat.le_of_ble_eq_true rfl) rfl d_M_row_42 (fun w H locs m0 hf hP hD hS => ?_)
          have mR := hf.at mR (by omega)
          have mE := hf.at mE (by omega)
          have mD := hf.at mD (by omega)
          have mO := hf.at mO (by omega)
          have mM := hf.at mM (by omega)
          have mP := hf.at mP (by omega)
          have mA := hf.at mA (by omega)
          have mB := hf.at mB (by omega)
          have mC := hf.at mC (by omega)
          have mL := hf.at mL (by omega)
          have hfr := hfr.in hf (by omega) (by omega)
          refine lv_aload_n hx hb d_M_row_45 rfl (lv_at hl 0 rfl) ?_
          refine gf_M_48 hF hT hK hP m0 rfl d_M_row_46 ?_
          refine lv_if_gt (tgt := 61) hx hb d_M_row_49 (by decide) (fun c11 => ?_) (fun c11 => ?_)
          · have c11 := (nI_ltI (a := 0) (b := 0) (by omega) (by omega)).mp c11
            exfalso; omega
          · have c11 : ¬ (0 < 0) := fun z => c11 ((nI_ltI (a := 0) (b := 0) (by omega) (by omega)).mpr z)
            refine lv_aload_n hx hb d_M_row_52 rfl (lv_at hl 0 rfl) ?_
            refine gf_M_13 hF hT hK hP m0 rfl d_M_row_53 ?_
            refine lv_iload_n hx hb d_M_row_56 rfl (lv_at hl 1 rfl) ?_
            refine g_zald (t0 := 2) (k := k) hx hb hK hP mE rfl (by omega) (by omega) d_M_row_57 ?_
            refine lv_if_eq (tgt := 63) hx hb d_M_row_58 (by decide) (fun c12 => ?_) (fun c12 => ?_)
            · refine lv_iload_n hx hb d_M_row_63 rfl (lv_at hl 2 rfl) ?_
              refine lv_iload_n hx hb d_M_row_64 rfl (lv_at hl 3 rfl) ?_
              refine lv_ineg hx hb d_M_row_65 ?_
              refine lv_icmp_ne (tgt := 96) hx hb d_M_row_66 (by decide) (fun c13 => ?_) (fun c13 => ?_)
              · have hyz : ¬ (y = 0 ∧ z = 0) := fun q => c13 (by rw [q.1, q.2]; decide)
                have hzy : ¬ (z = 0 ∧ y = 0) := fun q => hyz ⟨q.2, q.1⟩
                have hi1 := (lm_x1_tm ht_y ht_z).2 (lm_x1_nz hyz)
                have hk1 := (lm_x1_tm ht_z ht_y).2 (lm_x1_nz hzy)
                have mg_105 : ∀ (H : Heap) (locs : List Loc), va_P D classes w H → va_D (va_A ws sz) w → va_S (va_A ws sz) s.heap H locs → W p l e ({ frames := 4, cells := 0, slots := 0, locals := 71 } : Room) s m ([.ref (A 0), .int x, .int y, .int z, .long v] : List Value).toArray below meth c H locs 0 0 (MQ below (va_Qi (fun r w => (∃ th' R' E', lm_rowO N R Em x y z v o th' r R' E' ∧ mS cJ cI cZ w b A N th' nm R' E' Pt nA nB nC) ∧ gF b (b + 11) ws w) (gw_B D classes (gT cJ cI cZ cS) ws sz) (va_A ws sz)) ([.ref (A 0), .int x, .int y, .int z, .long v] : List Value).toArray s 0 0 (va_A ws sz)) (F0 m 105 ls [.int (lm_x1 y z)]) := by
                  intro H locs hP hD hS
                  refine gw_ci0 (gc_M_80 (As := [.int (lm_x1 y z)]) (rest := []) hF hT (c_M_at (lm_x1_tm ht_y ht_z).1 (lm_x1_nz hyz)) ⟨(Nat.le_of_ble_eq_true rfl), (Nat.le_of_ble_eq_true rfl)⟩ rfl rfl hK hN hP hD rfl hl.1 rfl (Nat.le_of_ble_eq_true rfl) d_M_row_105 ⟨(Nat.le_of_ble_eq_true rfl), (Nat.le_of_ble_eq_true rfl)⟩) hD hS hA (fun r14 H locs e_r14 hP hD hS => ?_)
                  subst e_r14
                  refine lv_istore (lv' := [(6, .int (nI (lr_pl (lm_x1 y z)))), (0, .ref (A 0)), (1, .int (nI k)), (2, .int y), (3, .int z), (4, .long v)]) hx hb d_M_row_108 hl (by decide) rfl (fun ls hl => ?_)
                  have mg_119 : ∀ (H : Heap) (locs : List Loc), va_P D classes w H → va_D (va_A ws sz) w → va_S (va_A ws sz) s.heap H locs → W p l e ({ frames := 4, cells := 0, slots := 0, locals := 71 } : Room) s m ([.ref (A 0), .int x, .int y, .int z, .long v] : List Value).toArray below meth c H locs 0 0 (MQ below (va_Qi (fun r w => (∃ th' R' E', lm_rowO N R Em x y z v o th' r R' E' ∧ mS cJ cI cZ w b A N th' nm R' E' Pt nA nB nC) ∧ gF b (b + 11) ws w) (gw_B D classes (gT cJ cI cZ cS) ws sz) (va_A ws sz)) ([.ref (A 0), .int x, .int y, .int z, .long v] : List Value).toArray s 0 0 (va_A ws sz)) (F0 m 119 ls [.int (lm_x1 z y)]) := by
                    intro H locs hP hD hS
                    refine gw_ci0 (gc_M_80 (As := [.int (lm_x1 z y)]) (rest := []) hF hT (c_M_at (lm_x1_tm ht_z ht_y).1 (lm_x1_nz hzy)) ⟨(Nat.le_of_ble_eq_true rfl), (Nat.le_of_ble_eq_true rfl)⟩ rfl rfl hK hN hP hD rfl hl.1 rfl (Nat.le_of_ble_eq_true rfl) d_M_row_119 ⟨(Nat.le_of_ble_eq_true rfl), (Nat.le_of_ble_eq_true rfl)⟩) hD hS hA (fun r15 H locs e_r15 hP hD hS => ?_)
                    subst e_r15
                    refine lv_istore (lv' := [(7, .int (nI (lr_pl (lm_x1 z y)))), (6, .int (nI (lr_pl (lm_x1 y z)))), (0, .ref (A 0)), (1, .int (nI k)), (2, .int y), (3, .int z), (4, .long v)]) hx hb d_M_row_122 hl (by decide) rfl (fun ls hl => ?_)
                    have mg_139 : ∀ (H : Heap) (locs : List Loc), va_P D classes w H → va_D (va_A ws sz) w → va_S (va_A ws sz) s.heap H locs → W p l e ({ frames := 4, cells := 0, slots := 0, locals := 71 } : Room) s m ([.ref (A 0), .int x, .int y, .int z, .long v] : List Value).toArray below meth c H locs 0 0 (MQ below (va_Qi (fun r w => (∃ th' R' E', lm_rowO N R Em x y z v o th' r R' E' ∧ mS cJ cI cZ w b A N th' nm R' E' Pt nA nB nC) ∧ gF b (b + 11) ws w) (gw_B D classes (gT cJ cI cZ cS) ws sz) (va_A ws sz)) ([.ref (A 0), .int x, .int y, .int z, .long v] : List Value).toArray s 0 0 (va_A ws sz)) (F0 m 139 ls [.long (lm_rv y z v)]) := by
                      intro H locs hP hD hS
                      refine lv_lstore (lv' := [(8, .long (lm_rv y z v)), (7, .int (nI (lr_pl (lm_x1 z y)))), (6, .int (nI (lr_pl (lm_x1 y z)))), (0, .ref (A 0)), (1, .int (nI k)), (2, .int y), (3, .int z), (4, .long v)]) hx hb d_M_row_139 hl (by decide) rfl (fun ls hl => ?_)
                      refine lv_aload_n hx hb d_M_row_141 rfl (lv_at hl 3 rfl) ?_
                      refine gf_M_7 hF hT hK hP m0 rfl d_M_row_142 ?_
                      refine lv_bipush (v := nI 100) hx hb d_M_row_145 (by decide) ?_
                      refine lv_iload_n hx hb d_M_row_147 rfl (lv_at hl 4 rfl) ?_
                      refine lv_imul hx hb d_M_row_148 ?_
                      refine gx_i (y := nI (100 * k)) (pk_mul _ _) ?_
                      refine lv_bipush (v := nI 10) hx hb d_M_row_149 (by decide) ?_
                      refine lv_iload hx hb d_M_row_151 (lv_at hl 2 rfl) ?_
                      refine lv_imul hx hb d_M_row_153 ?_
                      refine gx_i (y := nI (10 * (lr_pl (lm_x1 y z)))) (pk_mul _ _) ?_
                      refine lv_iadd hx hb d_M_row_154 ?_
                      refine gx_i (y := nI ((100 * k) + (10 * (lr_pl (lm_x1 y z))))) (nI_add _ _) ?_
                      refine lv_iload hx hb d_M_row_155 (lv_at hl 1 rfl) ?_
                      refine lv_iadd hx hb d_M_row_157 ?_
                      refine gx_i (y := nI (((100 * k) + (10 * (lr_pl (lm_x1 y z)))) + (lr_pl (lm_x1 z y)))) (nI_add _ _) ?_
                      refine g_lald (t0 := 0) (k := ((100 * k) + (10 * (lr_pl (lm_x1 y z)))) + (lr_pl (lm_x1 z y))) hx hb hK hP mR rfl (by omega) (by omega) d_M_row_158 ?_
                      refine lv_lstore (lv' := [(10, .long (R (((100 * k) + (10 * (lr_pl (lm_x1 y z)))) + (lr_pl (lm_x1 z y))))), (8, .long (lm_rv y z v)), (7, .int (nI (lr_pl (lm_x1 z y)))), (6, .int (nI (lr_pl (lm_x1 y z)))), (0, .ref (A 0)), (1, .int (nI k)), (2, .int y), (3, .int z), (4, .long v)]) hx hb d_M_row_159 hl (by decide) rfl (fun ls hl => ?_)
                      have mg_209 : ∀ (w : va_W) (H : Heap) (locs : List Loc) (ls : Array Slot), w[b]? = some (A 0, .inr (3, [.int (nI 0), .int (nI N), .ref (A 1), .ref (A 2), .ref (A 3), .ref (A 4), .ref (A 5), .ref (A 6), .int (nI nm), .ref (A 7), .ref (A 8), .ref (A 9), .ref (A 10)])) → w[b + 1]? = some (A 1, .inl (cJ, 800, .inr (.inl (lm_rowR R k y z v)))) → w[b + 2]? = some (A 2, .inl (cZ, 8, .inl Em)) → w[b + 3]? = some (A 3, .inl (cJ, 100, .inr (.inl D0))) → w[b + 4]? = some (A 4, .inl (cJ, 100, .inr (.inl O))) → w[b + 5]? = some (A 5, .inl (cJ, 100, .inr (.inl Md))) → w[b + 6]? = some (A 6, .inl (cJ, 6, .inr (.inl Pt))) → w[b + 7]? = some (A 7, .inl (cI, 60, .inl nA)) → w[b + 8]? = some (A 8, .inl (cI, 60, .inl nB)) → w[b + 9]? = some (A 9, .inl (cJ, 60, .inr (.inl nC))) → w[b + 10]? = some (A 10, .inl (cZ, 60, .inl Lf)) → gF b (b + 11) ws w → va_P D classes w H → va_D (va_A ws sz) w → va_S (va_A ws sz) s.heap H locs → lv_has ls 12 [(10, .long (R (((100 * k) + (10 * (lr_pl (lm_x1 y z)))) + (lr_pl (lm_x1 z y))))), (8, .long (lm_rv y z v)), (7, .int (nI (lr_pl (lm_x1 z y)))), (6, .int (nI (lr_pl (lm_x1 y z)))), (0, .ref (A 0)), (1, .int (nI k)), (2, .int y), (3, .int z), (4, .long v)] → W p l e ({ frames := 4, cells := 0, slots := 0, locals := 71 } : Room) s m ([.ref (A 0), .int x, .int y, .int z, .long v] : List Value).toArray below meth c H locs 0 0 (MQ below (va_Qi (fun r w => (∃ th' R' E', lm_rowO N R Em x y z v o th' r R' E' ∧ mS cJ cI cZ w b A N th' nm R' E' Pt nA nB nC) ∧ gF b (b + 11) ws w) (gw_B D classes (gT cJ cI cZ cS) ws sz) (va_A ws sz)) ([.ref (A 0), .int x, .int y, .int z, .long v] : List Value).toArray s 0 0 (va_A ws sz)) (F0 m 209 ls []) := by
                        intro w H locs ls m0 mR mE mD mO mM mP mA mB mC mL hfr hP hD hS hl
                        refine lv_aload_n hx hb d_M_row_209 rfl (lv_at hl 4 rfl) ?_
                        refine lv_iload_n hx hb d_M_row_210 rfl (lv_at hl 5 rfl) ?_
                        refine gw_ci (gc_M_98 (As := [.int (nI k)]) (rest := []) hF hT (c_M_closeShape m0 mR mE mD hN1 hN5 (u := k) (by omega) (fun _ => hc k hk ek c12 hq_y hq_z hq_v c13)) ⟨(Nat.le_of_ble_eq_true rfl), (Nat.le_of_ble_eq_true rfl)⟩ rfl rfl hK hN hP hD m0 rfl hl.1 rfl (Nat.le_of_ble_eq_true rfl) d_M_row_211 ⟨(Nat.le_of_ble_eq_true rfl), (Nat.le_of_ble_eq_true rfl)⟩) hD hS hA (fun r16 w H locs hw hP hD hS => ?_)
                        obtain ⟨⟨F17, mD, h_r16⟩, hf⟩ := hw
                        have m0 := hf.at m0 (by omega)
                        have mR := hf.at mR (by omega)
                        have mE := hf.at mE (by omega)
                        have mO := hf.at mO (by omega)
                        have mM := hf.at mM (by omega)
                        have mP := hf.at mP (by omega)
                        have mA := hf.at mA (by omega)
                        have mB := hf.at mB (by omega)
                        have mC := hf.at mC (by omega)
                        have mL := hf.at mL (by omega)
                        have hfr := hfr.in hf (by omega) (by omega)
                        refine lv_if_ne (tgt := 224) hx hb d_M_row_214 (by decide) (fun c18 => ?_) (fun c18 => ?_)
                        · obtain ⟨_, Y, hoY, hag⟩ := h_r16.y2 c18
                          refine lv_aload_n hx hb d_M_row_224 rfl (lv_at hl 4 rfl) ?_
                          refine gw_ci0 (gc_M_101 (As := []) (rest := []) hF hT (c_M_isFar m0 mD hN1 hN5 hag) ⟨(Nat.le_of_ble_eq_true rfl), (Nat.le_of_ble_eq_true rfl)⟩ rfl rfl hK hN hP hD m0 rfl hl.1 rfl (Nat.le_of_ble_eq_true rfl) d_M_row_225 ⟨(Nat.le_of_ble_eq_true rfl), (Nat.le_of_ble_eq_true rfl)⟩) hD hS hA (fun r19 H locs e_r19 hP hD hS => ?_)
                          refine lv_if_eq (tgt := 278) hx hb d_M_row_228 (by decide) (fun c20 => ?_) (fun c20 => ?_)
                          · refine lv_iconst (v := nI 1) hx hb d_M_row_278 (by decide) ?_
                            exact gw_iret hx hb hr hlocks hK hP hD hS (Nat.le_of_ble_eq_true rfl) (Nat.le_of_ble_eq_true rfl) d_M_row_279 ⟨⟨_, _, _, Or.inr (Or.inr ⟨k, hk, ek, hq_y, hq_z, hq_v, Or.inr (Or.inr (Or.inr (Or.inr ⟨c12, c13, Y, hoY, Or.inr ⟨gb_t e_r19 c20, rfl, rfl, rfl, rfl⟩⟩)))⟩), ⟨_, _, _, _, m0, mR, mE, mD, mO, mM, mP, mA, mB, mC, mL⟩⟩, hfr⟩
                          · refine lv_aload_n hx hb d_M_row_231 rfl (lv_at hl 4 rfl) ?_
                            refine gf_M_7 hF hT hK hP m0 rfl d_M_row_232 ?_
                            refine lv_bipush (v := nI 100) hx hb d_M_row_235 (by decide) ?_
                            refine lv_iload_n hx hb d_M_row_237 rfl (lv_at hl 5 rfl) ?_
                            refine lv_imul hx hb d_M_row_238 ?_
                            refine gx_i (y := nI (100 * k)) (pk_mul _ _) ?_
                            refine lv_bipush (v := nI 10) hx hb d_M_row_239 (by decide) ?_
                            refine lv_iload hx hb d_M_row_241 (lv_at hl 3 rfl) ?_
                            refine lv_imul hx hb d_M_row_243 ?_
                            refine gx_i (y := nI (10 * (lr_pl (lm_x1 y z)))) (pk_mul _ _) ?_
                            refine lv_iadd hx hb d_M_row_244 ?_
                            refine gx_i (y := nI ((100 * k) + (10 * (lr_pl (lm_x1 y z))))) (nI_add _ _) ?_
                            refine lv_iload hx hb d_M_row_245 (lv_at hl 2 rfl) ?_
                            refine lv_iadd hx hb d_M_row_247 ?_
                            refine gx_i (y := nI (((100 * k) + (10 * (lr_pl (lm_x1 y z)))) + (lr_pl (lm_x1 z y)))) (nI_add _ _) ?_
                            refine lv_lload hx hb d_M_row_248 (lv_at hl 0 rfl) ?_
                            refine g_last (t0 := 0) (k := ((100 * k) + (10 * (lr_pl (lm_x1 y z)))) + (lr_pl (lm_x1 z y))) hx hb hK hP hD hS mR rfl (by omega) (by omega) d_M_row_250 (fun w H locs mR hf hP hD hS => ?_)
                            have m0 := hf.at m0 (by omega)
                            have mE := hf.at mE (by omega)
                            have mD := hf.at mD (by omega)
                            have mO := hf.at mO (by omega)
                            have mM := hf.at mM (by omega)
                            have mP := hf.at mP (by omega)
                            have mA := hf.at mA (by omega)
                            have mB := hf.at mB (by omega)
                            have mC := hf.at mC (by omega)
                            have mL := hf.at mL (by omega)
                            have hfr := hfr.in hf (by omega) (by omega)
                            refine lv_aload_n hx hb d_M_row_251 rfl (lv_at hl 4 rfl) ?_
                            refine gf_M_7 hF hT hK hP m0 rfl d_M_row_252 ?_
                            refine lv_bipush (v := nI 100) hx hb d_M_row_255 (by decide) ?_
                            refine lv_iload_n hx hb d_M_row_257 rfl (lv_at hl 5 rfl) ?_
                            refine lv_imul hx hb d_M_row_258 ?_
                            refine gx_i (y := nI (100 * k)) (pk_mul _ _) ?_
                            refine lv_bipush (v := nI 10) hx hb d_M_row_259 (by decide) ?_
                            refine lv_iload hx hb d_M_row_261 (lv_at hl 2 rfl) ?_
                            refine lv_imul hx hb d_M_row_263 ?_
                            refine gx_i (y := nI (10 * (lr_pl (lm_x1 z y)))) (pk_mul _ _) ?_
                            refine lv_iadd hx hb d_M_row_264 ?_
                            refine gx_i (y := nI ((100 * k) + (10 * (lr_pl (lm_x1 z y))))) (nI_add _ _) ?_
                            refine lv_iload hx hb d_M_row_265 (lv_at hl 3 rfl) ?_
                            refine lv_iadd hx hb d_M_row_267 ?_
                            refine gx_i (y := nI (((100 * k) + (10 * (lr_pl (lm_x1 z y)))) + (lr_pl (lm_x1 y z)))) (nI_add _ _) ?_
                            refine lv_lload hx hb d_M_row_268 (lv_at hl 0 rfl) ?_
                            refine g_last (t0 := 0) (k := ((100 * k) + (10 * (lr_pl (lm_x1 z y)))) + (lr_pl (lm_x1 y z))) hx hb hK hP hD hS mR rfl (by omega) (by omega) d_M_row_270 (fun w H locs mR hf hP hD hS => ?_)
                            have m0 := hf.at m0 (by omega)
                            have mE := hf.at mE (by omega)
                            have mD := hf.at mD (by omega)
                            have mO := hf.at mO (by omega)
                            have mM := hf.at mM (by omega)
                            have mP := hf.at mP (by omega)
                            have mA := hf.at mA (by omega)
                            have mB := hf.at mB (by omega)
                            have mC := hf.at mC (by omega)
                            have mL := hf.at mL (by omega)
                            have hfr := hfr.in hf (by omega) (by omega)
                            refine lv_aload_n hx hb d_M_row_271 rfl (lv_at hl 4 rfl) ?_
                            refine lv_iconst (v := nI 3) hx hb d_M_row_272 (by decide) ?_
                            refine gp_M_48 hF hT hK hP hD hS (fs1 := [.int (nI 3), .int (nI N), .ref (A 1), .ref (A 2), .ref (A 3), .ref (A 4), .ref (A 5), .ref (A 6), .int (nI nm), .ref (A 7), .ref (A 8), .ref (A 9), .ref (A 10)]) m0 rfl rfl (Nat.le_of_ble_eq_true rfl) rfl d_M_row_273 (fun w H locs m0 hf hP hD hS => ?_)
                            have mR := hf.at mR (by omega)
                            have mE := hf.at mE (by omega)
                            have mD := hf.at mD (by omega)
                            have mO := hf.at mO (by omega)
                            have mM := hf.at mM (by omega)
                            have mP := hf.at mP (by omega)
                            have mA := hf.at mA (by omega)
                            have mB := hf.at mB (by omega)
                            have mC := hf.at mC (by omega)
                            have mL := hf.at mL (by omega)
                            have hfr := hfr.in hf (by omega) (by omega)
                            refine lv_iconst (v := nI 0) hx hb d_M_row_276 (by decide) ?_
                            exact gw_iret hx hb hr hlocks hK hP hD hS (Nat.le_of_ble_eq_true rfl) (Nat.le_of_ble_eq_true rfl) d_M_row_277 ⟨⟨_, _, _, Or.inr (Or.inr ⟨k, hk, ek, hq_y, hq_z, hq_v, Or.inr (Or.inr (Or.inr (Or.inr ⟨c12, c13, Y, hoY, Or.inl ⟨gb_f e_r19 c20, rfl, rfl, rfl, rfl⟩⟩)))⟩), ⟨_, _, _, _, m0, mR, mE, mD, mO, mM, mP, mA, mB, mC, mL⟩⟩, hfr⟩
                        · refine lv_aload_n hx hb d_M_row_217 rfl (lv_at hl 4 rfl) ?_
                          refine lv_iload_n hx hb d_M_row_218 rfl (lv_at hl 5 rfl) ?_
                          refine gw_cv (gc_M_73 (As := [.int (nI k)]) (rest := []) hF hT (c_M_none m0 mR mE hN1 hN5 (u := k) (by omega)) ⟨(Nat.le_of_ble_eq_true rfl), (Nat.le_of_ble_eq_true rfl)⟩ rfl rfl hK hN hP hD m0 rfl hl.1 rfl (Nat.le_of_ble_eq_true rfl) d_M_row_219 ⟨(Nat.le_of_ble_eq_true rfl), (Nat.le_of_ble_eq_true rfl)⟩) hD hS hA (fun w H locs hw hP hD hS => ?_)
                          obtain ⟨⟨mR, mE⟩, hf⟩ := hw
                          have m0 := hf.at m0 (by omega)
                          have mD := hf.at mD (by omega)
                          have mO := hf.at mO (by omega)
                          have mM := hf.at mM (by omega)
                          have mP := hf.at mP (by omega)
                          have mA := hf.at mA (by omega)
                          have mB := hf.at mB (by omega)
                          have mC := hf.at mC (by omega)
                          have mL := hf.at mL (by omega)
                          have hfr := hfr.in hf (by omega) (by omega)
                          refine lv_iconst (v := nI 0) hx hb d_M_row_222 (by decide) ?_
                          exact gw_iret hx hb hr hlocks hK hP hD hS (Nat.le_of_ble_eq_true rfl) (Nat.le_of_ble_eq_true rfl) d_M_row_223 ⟨⟨_, _, _, Or.inr (Or.inr ⟨k, hk, ek, hq_y, hq_z, hq_v, Or.inr (Or.inr (Or.inr (Or.inl ⟨c12, c13, h_r16.n2 c18 c12, rfl, rfl, rfl, rfl⟩)))⟩), ⟨_, _, _, _, m0, mR, mE, mD, mO, mM, mP, mA, mB, mC, mL⟩⟩, hfr⟩
                      refine lv_lload hx hb d_M_row_161 (lv_at hl 1 rfl) ?_
                      refine lv_lload hx hb d_M_row_163 (lv_at hl 0 rfl) ?_
                      refine gx_lge (tgt := 209) hx hb d_M_row_165 d_M_row_166 (by decide) (fun c21 => ?_) (fun c21 => ?_)
                      · have eB22 : lm_rowR R k y z v = R := by show lm_rs _ _ _ _ _ = _; unfold lm_rs; rw [if_pos c21]
                        rw [← eB22] at mR
                        exact mg_209 _ _ _ _ m0 mR mE mD mO mM mP mA mB mC mL hfr hP hD hS (lv_sub hl [0, 1, 2, 3, 4, 5, 6, 7, 8] rfl)
                      · refine lv_aload_n hx hb d_M_row_169 rfl (lv_at hl 4 rfl) ?_
                        refine gf_M_7 hF hT hK hP m0 rfl d_M_row_170 ?_
                        refine lv_bipush (v := nI 100) hx hb d_M_row_173 (by decide) ?_
                        refine lv_iload_n hx hb d_M_row_175 rfl (lv_at hl 5 rfl) ?_
                        refine lv_imul hx hb d_M_row_176 ?_
                        refine gx_i (y := nI (100 * k)) (pk_mul _ _) ?_
                        refine lv_bipush (v := nI 10) hx hb d_M_row_177 (by decide) ?_
                        refine lv_iload hx hb d_M_row_179 (lv_at hl 3 rfl) ?_
                        refine lv_imul hx hb d_M_row_181 ?_
                        refine gx_i (y := nI (10 * (lr_pl (lm_x1 y z)))) (pk_mul _ _) ?_
                        refine lv_iadd hx hb d_M_row_182 ?_
                        refine gx_i (y := nI ((100 * k) + (10 * (lr_pl (lm_x1 y z))))) (nI_add _ _) ?_
                        refine lv_iload hx hb d_M_row_183 (lv_at hl 2 rfl) ?_
                        refine lv_iadd hx hb d_M_row_185 ?_
                        refine gx_i (y := nI (((100 * k) + (10 * (lr_pl (lm_x1 y z)))) + (lr_pl (lm_x1 z y)))) (nI_add _ _) ?_
                        refine lv_lload hx hb d_M_row_186 (lv_at hl 1 rfl) ?_
                        refine g_last (t0 := 0) (k := ((100 * k) + (10 * (lr_pl (lm_x1 y z)))) + (lr_pl (lm_x1 z y))) hx hb hK hP hD hS mR rfl (by omega) (by omega) d_M_row_188 (fun w H locs mR hf hP hD hS => ?_)
                        have m0 := hf.at m0 (by omega)
                        have mE := hf.at mE (by omega)
                        have mD := hf.at mD (by omega)
                        have mO := hf.at mO (by omega)
                        have mM := hf.at mM (by omega)
                        have mP := hf.at mP (by omega)
                        have mA := hf.at mA (by omega)
                        have mB := hf.at mB (by omega)
                        have mC := hf.at mC (by omega)
                        have mL := hf.at mL (by omega)
                        have hfr := hfr.in hf (by omega) (by omega)
                        refine lv_aload_n hx hb d_M_row_189 rfl (lv_at hl 4 rfl) ?_
                        refine gf_M_7 hF hT hK hP m0 rfl d_M_row_190 ?_
                        refine lv_bipush (v := nI 100) hx hb d_M_row_193 (by decide) ?_
                        refine lv_iload_n hx hb d_M_row_195 rfl (lv_at hl 5 rfl) ?_
                        refine lv_imul hx hb d_M_row_196 ?_
                        refine gx_i (y := nI (100 * k)) (pk_mul _ _) ?_
                        refine lv_bipush (v := nI 10) hx hb d_M_row_197 (by decide) ?_
                        refine lv_iload hx hb d_M_row_199 (lv_at hl 2 rfl) ?_
                        refine lv_imul hx hb d_M_row_201 ?_
                        refine gx_i (y := nI (10 * (lr_pl (lm_x1 z y)))) (pk_mul _ _) ?_
                        refine lv_iadd hx hb d_M_row_202 ?_
                        refine gx_i (y := nI ((100 * k) + (10 * (lr_pl (lm_x1 z y))))) (nI_add _ _) ?_
                        refine lv_iload hx hb d_M_row_203 (lv_at hl 3 rfl) ?_
                        refine lv_iadd hx hb d_M_row_205 ?_
                        refine gx_i (y := nI (((100 * k) + (10 * (lr_pl (lm_x1 z y)))) + (lr_pl (lm_x1 y z)))) (nI_add _ _) ?_
                        refine lv_lload hx hb d_M_row_206 (lv_at hl 1 rfl) ?_
                        refine g_last (t0 := 0) (k := ((100 * k) + (10 * (lr_pl (lm_x1 z y)))) + (lr_pl (lm_x1 y z))) hx hb hK hP hD hS mR rfl (by omega) (by omega) d_M_row_208 (fun w H locs mR hf hP hD hS => ?_)
                        have m0 := hf.at m0 (by omega)
                        have mE := hf.at mE (by omega)
                        have mD := hf.at mD (by omega)
                        have mO := hf.at mO (by omega)
                        have mM := hf.at mM (by omega)
                        have mP := hf.at mP (by omega)
                        have mA := hf.at mA (by omega)
                        have mB := hf.at mB (by omega)
                        have mC := hf.at mC (by omega)
                        have mL := hf.at mL (by omega)
                        have hfr := hfr.in hf (by omega) (by omega)
                        have eB23 : lm_rowR R k y z v = vp_updL (vp_updL R (((100 * k) + (10 * (lr_pl (lm_x1 y z)))) + (lr_pl (lm_x1 z y))) (lm_rv y z v)) (((100 * k) + (10 * (lr_pl (lm_x1 z y)))) + (lr_pl (lm_x1 y z))) (lm_rv y z v) := by show lm_rs _ _ _ _ _ = _; unfold lm_rs; rw [if_neg c21]
                        rw [← eB23] at mR
                        exact mg_209 _ _ _ _ m0 mR mE mD mO mM mP mA mB mC mL hfr hP hD hS (lv_sub hl [0, 1, 2, 3, 4, 5, 6, 7, 8] rfl)
                    refine lv_iload_n hx hb d_M_row_124 rfl (lv_at hl 4 rfl) ?_
                    refine lv_iload_n hx hb d_M_row_125 rfl (lv_at hl 5 rfl) ?_
                    refine lv_icmp_ne (tgt := 137) hx hb d_M_row_126 (by decide) (fun c24 => ?_) (fun c24 => ?_)
                    · refine lv_lload hx hb d_M_row_137 (lv_at hl 6 rfl) ?_
                      exact gx_l (y := lm_rv y z v) (by unfold lm_rv; rw [if_neg c24]) (mg_139 _ _ hP hD hS)
                    · refine lv_lload hx hb d_M_row_129 (lv_at hl 6 rfl) ?_
                      refine gw_cl0 (gc_M_61 (As := [.long v]) (rest := []) hF hT (c_M_half) ⟨(Nat.le_of_ble_eq_true rfl), (Nat.le_of_ble_eq_true rfl)⟩ rfl rfl hK hN hP hD rfl hl.1 rfl (Nat.le_of_ble_eq_true rfl) d_M_row_131 ⟨(Nat.le_of_ble_eq_true rfl), (Nat.le_of_ble_eq_true rfl)⟩) hD hS hA (fun r25 H locs e_r25 hP hD hS => ?_)
                      subst e_r25
                      refine lv_goto (tgt := 139) hx hb d_M_row_134 (by decide) ?_
                      exact gx_l (y := lm_rv y z v) (by unfold lm_rv; rw [if_pos c24]) (mg_139 _ _ hP hD hS)
                  refine lv_iload_n hx hb d_M_row_110 rfl (lv_at hl 4 rfl) ?_
                  refine lv_if_ne (tgt := 118) hx hb d_M_row_111 (by decide) (fun c26 => ?_) (fun c26 => ?_)
                  · refine lv_iload_n hx hb d_M_row_118 rfl (lv_at hl 4 rfl) ?_
                    exact gx_i (y := lm_x1 z y) (by unfold lm_x1; rw [if_neg c26]) (mg_119 _ _ hP hD hS)
                  · refine lv_iload_n hx hb d_M_row_114 rfl (lv_at hl 3 rfl) ?_
                    refine lv_goto (tgt := 119) hx hb d_M_row_115 (by decide) ?_
                    exact gx_i (y := lm_x1 z y) (by unfold lm_x1; rw [if_pos c26]) (mg_119 _ _ hP hD hS)
                refine lv_iload_n hx hb d_M_row_96 rfl (lv_at hl 2 rfl) ?_
                refine lv_if_ne (tgt := 104) hx hb d_M_row_97 (by decide) (fun c27 => ?_) (fun c27 => ?_)
                · refine lv_iload_n hx hb d_M_row_104 rfl (lv_at hl 2 rfl) ?_
                  exact gx_i (y := lm_x1 y z) (by unfold lm_x1; rw [if_neg c27]) (mg_105 _ _ hP hD hS)
                · refine lv_iload_n hx hb d_M_row_100 rfl (lv_at hl 3 rfl) ?_
                  refine lv_goto (tgt := 105) hx hb d_M_row_101 (by decide) ?_
                  exact gx_i (y := lm_x1 y z) (by unfold lm_x1; rw [if_pos c27]) (mg_105 _ _ hP hD hS)
              · refine lv_lload hx hb d_M_row_69 (lv_at hl 4 rfl) ?_
                refine lv_lconst (v := 0) hx hb d_M_row_71 rfl ?_
                refine gx_lge (tgt := 81) hx hb d_M_row_72 d_M_row_73 (by decide) (fun c28 => ?_) (fun c28 => ?_)
                · refine lv_aload_n hx hb d_M_row_81 rfl (lv_at hl 0 rfl) ?_
                  refine gf_M_13 hF hT hK hP m0 rfl d_M_row_82 ?_
                  refine lv_iload_n hx hb d_M_row_85 rfl (lv_at hl 1 rfl) ?_
                  refine g_zald (t0 := 2) (k := k) hx hb hK hP mE rfl (by omega) (by omega) d_M_row_86 ?_
                  refine lv_if_eq (tgt := 94) hx hb d_M_row_87 (by decide) (fun c29 => ?_) (fun c29 => ?_)
                  · refine lv_iconst (v := nI 1) hx hb d_M_row_94 (by decide) ?_
                    exact gw_iret hx hb hr hlocks hK hP hD hS (Nat.le_of_ble_eq_true rfl) (Nat.le_of_ble_eq_true rfl) d_M_row_95 ⟨⟨_, _, _, Or.inr (Or.inr ⟨k, hk, ek, hq_y, hq_z, hq_v, Or.inr (Or.inl ⟨c12, c13, c28, rfl, rfl, rfl, rfl⟩)⟩), ⟨_, _, _, _, m0, mR, mE, mD, mO, mM, mP, mA, mB, mC, mL⟩⟩, hfr⟩
                  · exact absurd c12 c29
                · refine lv_aload_n hx hb d_M_row_76 rfl (lv_at hl 0 rfl) ?_
                  refine lv_iload_n hx hb d_M_row_77 rfl (lv_at hl 1 rfl) ?_
                  refine gw_cv (gc_M_73 (As := [.int (nI k)]) (rest := []) hF hT (c_M_none m0 mR mE hN1 hN5 (u := k) (by omega)) ⟨(Nat.le_of_ble_eq_true rfl), (Nat.le_of_ble_eq_true rfl)⟩ rfl rfl hK hN hP hD m0 rfl hl.1 rfl (Nat.le_of_ble_eq_true rfl) d_M_row_78 ⟨(Nat.le_of_ble_eq_true rfl), (Nat.le_of_ble_eq_true rfl)⟩) hD hS hA (fun w H locs hw hP hD hS => ?_)
                  obtain ⟨⟨mR, mE⟩, hf⟩ := hw
                  have m0 := hf.at m0 (by omega)
                  have mD := hf.at mD (by omega)
                  have mO := hf.at mO (by omega)
                  have mM := hf.at mM (by omega)
                  have mP := hf.at mP (by omega)
                  have mA := hf.at mA (by omega)
                  have mB := hf.at mB (by omega)
                  have mC := hf.at mC (by omega)
                  have mL := hf.at mL (by omega)
                  have hfr := hfr.in hf (by omega) (by omega)
                  refine lv_aload_n hx hb d_M_row_81 rfl (lv_at hl 0 rfl) ?_
                  refine gf_M_13 hF hT hK hP m0 rfl d_M_row_82 ?_
                  refine lv_iload_n hx hb d_M_row_85 rfl (lv_at hl 1 rfl) ?_
                  refine g_zald (t0 := 2) (k := k) hx hb hK hP mE rfl (by omega) (by omega) d_M_row_86 ?_
                  refine lv_if_eq (tgt := 94) hx hb d_M_row_87 (by decide) (fun c30 => ?_) (fun c30 => ?_)
                  · exact absurd ((lm_upd_k _ _ _).symm.trans c30) (by decide)
                  · refine lv_iconst (v := nI 0) hx hb d_M_row_90 (by decide) ?_
                    refine lv_goto (tgt := 95) hx hb d_M_row_91 (by decide) ?_
                    exact gw_iret hx hb hr hlocks hK hP hD hS (Nat.le_of_ble_eq_true rfl) (Nat.le_of_ble_eq_true rfl) d_M_row_95 ⟨⟨_, _, _, Or.inr (Or.inr ⟨k, hk, ek, hq_y, hq_z, hq_v, Or.inr (Or.inr (Or.inl ⟨c12, c13, c28, rfl, rfl, rfl, rfl⟩))⟩), ⟨_, _, _, _, m0, mR, mE, mD, mO, mM, mP, mA, mB, mC, mL⟩⟩, hfr⟩
            · refine lv_iconst (v := nI 0) hx hb d_M_row_61 (by decide) ?_
              exact gw_iret hx hb hr hlocks hK hP hD hS (Nat.le_of_ble_eq_true rfl) (Nat.le_of_ble_eq_true rfl) d_M_row_62 ⟨⟨_, _, _, Or.inr (Or.inr ⟨k, hk, ek, hq_y, hq_z, hq_v, Or.inl ⟨c12, rfl, rfl, rfl, rfl⟩⟩), ⟨_, _, _, _, m0, mR, mE, mD, mO, mM, mP, mA, mB, mC, mL⟩⟩, hfr⟩
        · refine lv_iconst (v := nI 2) hx hb d_M_row_37 (by decide) ?_
          refine lv_goto (tgt := 42) hx hb d_M_row_38 (by decide) ?_
          refine gp_M_48 hF hT hK hP hD hS (fs1 := [.int (nI 2), .int (nI N), .ref (A 1), .ref (A 2), .ref (A 3), .ref (A 4), .ref (A 5), .ref (A 6), .int (nI nm), .ref (A 7), .ref (A 8), .ref (A 9), .ref (A 10)]) m0 rfl rfl (Nat.le_of_ble_eq_true rfl) rfl d_M_row_42 (fun w H locs m0 hf hP hD hS => ?_)
          have mR := hf.at mR (by omega)
          have mE := hf.at mE (by omega)
          have mD := hf.at mD (by omega)
          have mO := hf.at mO (by omega)
          have mM := hf.at mM (by omega)
          have mP := hf.at mP (by omega)
          have mA := hf.at mA (by omega)
          have mB := hf.at mB (by omega)
          have mC := hf.at mC (by omega)
          have mL := hf.at mL (by omega)
          have hfr := hfr.in hf (by omega) (by omega)
          refine lv_aload_n hx hb d_M_row_45 rfl (lv_at hl 0 rfl) ?_
          refine gf_M_48 hF hT hK hP m0 rfl d_M_row_46 ?_
          refine lv_if_gt (tgt := 61) hx hb d_M_row_49 (by decide) (fun c31 => ?_) (fun c31 => ?_)
          · have c31 := (nI_ltI (a := 0) (b := 2) (by omega) (by omega)).mp c31
            refine lv_iconst (v := nI 0) hx hb d_M_row_61 (by decide) ?_
            exact gw_iret hx hb hr hlocks hK hP hD hS (Nat.le_of_ble_eq_true rfl) (Nat.le_of_ble_eq_true rfl) d_M_row_62 ⟨⟨_, _, _, Or.inr (Or.inl ⟨⟨hq_x, hq_y, hq_z⟩, gb_t e_r9 c10, rfl, rfl, rfl⟩), ⟨_, _, _, _, m0, mR, mE, mD, mO, mM, mP, mA, mB, mC, mL⟩⟩, hfr⟩
          · have c31 : ¬ (0 < 2) := fun z => c31 ((nI_ltI (a := 0) (b := 2) (by omega) (by omega)).mpr z)
            exfalso; omega
      · refine lv_iconst (v := nI 1) hx hb d_M_row_25 (by decide) ?_
        refine lv_goto (tgt := 42) hx hb d_M_row_26 (by decide) ?_
        refine gp_M_48 hF hT hK hP hD hS (fs1 := [.int (nI 1), .int (nI N), .ref (A 1), .ref (A 2), .ref (A 3), .ref (A 4), .ref (A 5), .ref (A 6), .int (nI nm), .ref (A 7), .ref (A 8), .ref (A 9), .ref (A 10)]) m0 rfl rfl (Nat.le_of_ble_eq_true rfl) rfl d_M_row_42 (fun w H locs m0 hf hP hD hS => ?_)
        have mR := hf.at mR (by omega)
        have mE := hf.at mE (by omega)
        have mD := hf.at mD (by omega)
        have mO := hf.at mO (by omega)
        have mM := hf.at mM (by omega)
        have mP := hf.at mP (by omega)
        have mA := hf.at mA (by omega)
        have mB := hf.at mB (by omega)
        have mC := hf.at mC (by omega)
        have mL := hf.at mL (by omega)
        have hfr := hfr.in hf (by omega) (by omega)
        refine lv_aload_n hx hb d_M_row_45 rfl (lv_at hl 0 rfl) ?_
        refine gf_M_48 hF hT hK hP m0 rfl d_M_row_46 ?_
        refine lv_if_gt (tgt := 61) hx hb d_M_row_49 (by decide) (fun c32 => ?_) (fun c32 => ?_)
        · have c32 := (nI_ltI (a := 0) (b := 1) (by omega) (by omega)).mp c32
          refine lv_iconst (v := nI 0) hx hb d_M_row_61 (by decide) ?_
          exact gw_iret hx hb hr hlocks hK hP hD hS (Nat.le_of_ble_eq_true rfl) (Nat.le_of_ble_eq_true rfl) d_M_row_62 ⟨⟨_, _, _, Or.inl ⟨fun q => gb_t e_r7 c8 q.2.2, rfl, rfl, rfl⟩, ⟨_, _, _, _, m0, mR, mE, mD, mO, mM, mP, mA, mB, mC, mL⟩⟩, hfr⟩
        · have c32 : ¬ (0 < 1) := fun z => c32 ((nI_ltI (a := 0) (b := 1) (by omega) (by omega)).mpr z)
          exfalso; omega
