set_option maxHeartbeats 4000000 in
set_option maxRecDepth 100000 in
theorem c_M_needed {l : Launch} {D : va_G} {cJ cI cZ cS : ClassId} {ws : va_W} {sz : Nat} {b N nm : Nat} {A : Nat → Nat} {th : Int32} {R Pt nC : Nat → Int64} {Em nA nB : Nat → Int32} (hM : mS cJ cI cZ ws b A N th nm R Em Pt nA nB nC) (hN1 : 1 ≤ N) (hN5 : N ≤ 5) {CF : Nat → Nat → Nat → Int64} (hF1 : lm_F N R Em CF) {x : Int32} {YS : Nat → Nat → Nat → Int64} (hY : ∀ k, k < 8 → x = nI k → Em k = 0 → ∀ Lf t, t < (lm_lst (CF k) N nA nB nC Lf).1 → lm_Cl N (lm_bld (lm_lst (CF k) N nA nB nC Lf) (upd (lm_el (lm_lst (CF k) N nA nB nC Lf) YS t) ((lm_lst (CF k) N nA nB nC Lf).1 - (t + 1)) (nI 0)) (lm_lst (CF k) N nA nB nC Lf).1) (some (YS ((lm_lst (CF k) N nA nB nC Lf).1 - (t + 1))))) : Met l y_M_needed w_M_needed ({ frames := 4, cells := 0, slots := 0, locals := 71 } : Room) (gw_Pc D classes (gT cJ cI cZ cS) [.ref (A 0), .int x] ws sz) (va_Qi (fun r w => (∃ th' n' a' b' c', ((¬ okS x ∧ th' = nI 1 ∧ n' = nm ∧ a' = nA ∧ b' = nB ∧ c' = nC) ∨ (∃ k, k < 8 ∧ x = nI k ∧ th' = nI 0 ∧ r = nI n' ∧ n' ≤ 60 ∧ ((¬ Em k = 0 ∧ n' = 1 ∧ a' = upd nA 0 (nI 0) ∧ b' = upd nB 0 (nI 0) ∧ c' = vp_updL nC 0 (-1)) ∨ (Em k = 0 ∧ ∃ Lf, (n', a', b', c') = lm_ndF (lm_lst (CF k) N nA nB nC Lf) YS)))) ∧ mS cJ cI cZ w b A N th' n' R Em Pt a' b' c') ∧ gF b (b + 11) ws w) (gw_B D classes (gT cJ cI cZ cS) ws sz) (va_A ws sz)) 0 0 (va_A ws sz) := by
  refine gw_head (by decide) (Nat.le_of_ble_eq_true rfl) (fun p e s m below meth c hsz hx hb hr hlocks hml hown hnm hts hK hN hP hD hS hA ls hl => ?_)
  have hown : s.vm.findClass R_M = some m.cls := hown
  have hT : ∀ w ∈ wG, w ∈ Cond.code y_M_needed b_M_needed 4 (some .int) :: wG := gd_t _
  have hF : CallFix p m c b_M_needed 4 s ([.ref (A 0), .int x] : List Value).toArray (Cond.code y_M_needed b_M_needed 4 (some .int) :: wG) R_M := ⟨hx, hb, hml, hown, hts⟩
  have hl : lv_has ls 4 [(0, .ref (A 0)), (1, .int x)] := hl
  obtain ⟨D0, O, Md, Lf, m0, mR, mE, mD, mO, mM, mP, mA, mB, mC, mL⟩ := hM
  have hNN := lr_nn hN5
  have hfr : gF b (b + 11) ws ws := gF.rf
  refine lv_aload_n hx hb d_M_needed_0 rfl (lv_at hl 0 rfl) ?_
  refine lv_aload_n hx hb d_M_needed_1 rfl (lv_at hl 0 rfl) ?_
  refine lv_iload_n hx hb d_M_needed_2 rfl (lv_at hl 1 rfl) ?_
  refine gw_ci0 (gc_M_83 (As := [.int x]) (rest := [.ref (A 0)]) hF hT (c_M_isShape m0 hN1 hN5) ⟨(Nat.le_of_ble_eq_true rfl), (Nat.le_of_ble_eq_true rfl)⟩ rfl rfl hK hN hP hD m0 rfl hl.1 rfl (Nat.le_of_ble_eq_true rfl) d_M_needed_3 ⟨(Nat.le_of_ble_eq_true rfl), (Nat.le_of_ble_eq_true rfl)⟩) hD hS hA (fun r1 H locs e_r1 hP hD hS => ?_)
  refine lv_if_eq (tgt := 13) hx hb d_M_needed_6 (by decide) (fun c2 => ?_) (fun c2 => ?_)
  · refine lv_iconst (v := nI 1) hx hb d_M_needed_13 (by decide) ?_
    refine gp_M_48 hF hT hK hP hD hS (fs1 := [.int (nI 1), .int (nI N), .ref (A 1), .ref (A 2), .ref (A 3), .ref (A 4), .ref (A 5), .ref (A 6), .int (nI nm), .ref (A 7), .ref (A 8), .ref (A 9), .ref (A 10)]) m0 rfl rfl (Nat.le_of_ble_eq_true rfl) rfl d_M_needed_14 (fun w H locs m0 hf hP hD hS => ?_)
    have mR := hf.at mR (by omega)
    have mE := hf.at mE (by omega)
    have mD := hf.at mD (by omega)
    have mO := hf.at mO (by omega)
    have mM := hf.at mM (by omega)
    have mP := hf.at mP (by omega)
    have mA := hf.at mA (by omega)
    have mB := hf.at mB (by omega)
    have mC := hf.at mC (by omega)
    have mL := hf.at mL (by omega)
    have hfr := hfr.in hf (by omega) (by omega)
    refine lv_aload_n hx hb d_M_needed_17 rfl (lv_at hl 0 rfl) ?_
    refine gf_M_48 hF hT hK hP m0 rfl d_M_needed_18 ?_
    refine lv_if_le (tgt := 26) hx hb d_M_needed_21 (by decide) (fun c3 => ?_) (fun c3 => ?_)
    · have c3 := (nI_leI (a := 1) (b := 0) (by omega) (by omega)).mp c3
      exfalso; omega
    · have c3 : ¬ (1 ≤ 0) := fun z => c3 ((nI_leI (a := 1) (b := 0) (by omega) (by omega)).mpr z)
      refine lv_iconst (v := nI 0) hx hb d_M_needed_24 (by decide) ?_
      exact gw_iret hx hb hr hlocks hK hP hD hS (Nat.le_of_ble_eq_true rfl) (Nat.le_of_ble_eq_true rfl) d_M_needed_25 ⟨⟨_, _, _, _, _, Or.inl ⟨fun q => gb_t e_r1 c2 q, rfl, rfl, rfl, rfl, rfl⟩, ⟨_, _, _, _, m0, mR, mE, mD, mO, mM, mP, mA, mB, mC, mL⟩⟩, hfr⟩
  · have hq_x := gb_f e_r1 c2
    obtain ⟨k, hk, ek⟩ := hq_x.k
    rw [ek] at hl
    refine lv_iconst (v := nI 0) hx hb d_M_needed_9 (by decide) ?_
    refine lv_goto (tgt := 14) hx hb d_M_needed_10 (by decide) ?_
    refine gp_M_48 hF hT hK hP hD hS (fs1 := [.int (nI 0), .int (nI N), .ref (A 1), .ref (A 2), .ref (A 3), .ref (A 4), .ref (A 5), .ref (A 6), .int (nI nm), .ref (A 7), .ref (A 8), .ref (A 9), .ref (A 10)]) m0 rfl rfl (Nat.le_of_ble_eq_true rfl) rfl d_M_needed_14 (fun w H locs m0 hf hP hD hS => ?_)
    have mR := hf.at mR (by omega)
    have mE := hf.at mE (by omega)
    have mD := hf.at mD (by omega)
    have mO := hf.at mO (by omega)
    have mM := hf.at mM (by omega)
    have mP := hf.at mP (by omega)
    have mA := hf.at mA (by omega)
    have mB := hf.at mB (by omega)
    have mC := hf.at mC (by omega)
    have mL := hf.at mL (by omega)
    have hfr := hfr.in hf (by omega) (by omega)
    refine lv_aload_n hx hb d_M_needed_17 rfl (lv_at hl 0 rfl) ?_
    refine gf_M_48 hF hT hK hP m0 rfl d_M_needed_18 ?_
    refine lv_if_le (tgt := 26) hx hb d_M_needed_21 (by decide) (fun c4 => ?_) (fun c4 => ?_)
    · have c4 := (nI_leI (a := 0) (b := 0) (by omega) (by omega)).mp c4
      refine lv_aload_n hx hb d_M_needed_26 rfl (lv_at hl 0 rfl) ?_
      refine lv_iconst (v := nI 0) hx hb d_M_needed_27 (by decide) ?_
      refine gp_M_150 hF hT hK hP hD hS (fs1 := [.int (nI 0), .int (nI N), .ref (A 1), .ref (A 2), .ref (A 3), .ref (A 4), .ref (A 5), .ref (A 6), .int (nI 0), .ref (A 7), .ref (A 8), .ref (A 9), .ref (A 10)]) m0 rfl rfl (Nat.le_of_ble_eq_true rfl) rfl d_M_needed_28 (fun w H locs m0 hf hP hD hS => ?_)
      have mR := hf.at mR (by omega)
      have mE := hf.at mE (by omega)
      have mD := hf.at mD (by omega)
      have mO := hf.at mO (by omega)
      have mM := hf.at mM (by omega)
      have mP := hf.at mP (by omega)
      have mA := hf.at mA (by omega)
      have mB := hf.at mB (by omega)
      have mC := hf.at mC (by omega)
      have mL := hf.at mL (by omega)
      have hfr := hfr.in hf (by omega) (by omega)
      refine lv_aload_n hx hb d_M_needed_31 rfl (lv_at hl 0 rfl) ?_
      refine lv_iload_n hx hb d_M_needed_32 rfl (lv_at hl 1 rfl) ?_
      refine gw_ci (gc_M_98 (As := [.int (nI k)]) (rest := []) hF hT (c_M_closeShape m0 mR mE mD hN1 hN5 (u := k) (by omega) (hF1 k hk)) ⟨(Nat.le_of_ble_eq_true rfl), (Nat.le_of_ble_eq_true rfl)⟩ rfl rfl hK hN hP hD m0 rfl hl.1 rfl (Nat.le_of_ble_eq_true rfl) d_M_needed_33 ⟨(Nat.le_of_ble_eq_true rfl), (Nat.le_of_ble_eq_true rfl)⟩) hD hS hA (fun r5 w H locs hw hP hD hS => ?_)
      obtain ⟨⟨F6, mD, h_r5⟩, hf⟩ := hw
      have m0 := hf.at m0 (by omega)
      have mR := hf.at mR (by omega)
      have mE := hf.at mE (by omega)
      have mO := hf.at mO (by omega)
      have mM := hf.at mM (by omega)
      have mP := hf.at mP (by omega)
      have mA := hf.at mA (by omega)
      have mB := hf.at mB (by omega)
      have mC := hf.at mC (by omega)
      have mL := hf.at mL (by omega)
      have hfr := hfr.in hf (by omega) (by omega)
      refine lv_if_ne (tgt := 69) hx hb d_M_needed_36 (by decide) (fun c7 => ?_) (fun c7 => ?_)
      · obtain ⟨hE33, _, hag33⟩ := h_r5.y c7
        refine lv_iconst (v := nI 0) hx hb d_M_needed_69 (by decide) ?_
        refine lv_istore_n (lv' := [(2, .int (nI 0)), (0, .ref (A 0)), (1, .int (nI k))]) hx hb d_M_needed_70 rfl hl (by decide) rfl (fun ls hl => ?_)
        have lp_71 : ∀ (dd i : Nat), i + dd = (2 * N) → ∀ (w : va_W) (H : Heap) (locs : List Loc) (ls : Array Slot) (S : lm_N), w[b]? = some (A 0, .inr (3, [.int (nI 0), .int (nI N), .ref (A 1), .ref (A 2), .ref (A 3), .ref (A 4), .ref (A 5), .ref (A 6), .int (nI S.1), .ref (A 7), .ref (A 8), .ref (A 9), .ref (A 10)])) → w[b + 1]? = some (A 1, .inl (cJ, 800, .inr (.inl R))) → w[b + 2]? = some (A 2, .inl (cZ, 8, .inl Em)) → w[b + 3]? = some (A 3, .inl (cJ, 100, .inr (.inl F6))) → w[b + 4]? = some (A 4, .inl (cJ, 100, .inr (.inl O))) → w[b + 5]? = some (A 5, .inl (cJ, 100, .inr (.inl Md))) → w[b + 6]? = some (A 6, .inl (cJ, 6, .inr (.inl Pt))) → w[b + 7]? = some (A 7, .inl (cI, 60, .inl S.2.1)) → w[b + 8]? = some (A 8, .inl (cI, 60, .inl S.2.2.1)) → w[b + 9]? = some (A 9, .inl (cJ, 60, .inr (.inl S.2.2.2.1))) → w[b + 10]? = some (A 10, .inl (cZ, 60, .inl S.2.2.2.2)) → (S = lm_t1 (CF k) i (0, nA, nB, nC, Lf)) → (S.1 ≤ i) → (lm_gd N S) → gF b (b + 11) ws w → va_P D classes w H → va_D (va_A ws sz) w → va_S (va_A ws sz) s.heap H locs → lv_has ls 4 [(2, .int (nI i)), (0, .ref (A 0)), (1, .int (nI k))] → W p l e ({ frames := 4, cells := 0, slots := 0, locals := 71 } : Room) s m ([.ref (A 0), .int x] : List Value).toArray below meth c H locs 0 0 (MQ below (va_Qi (fun r w => (∃ th' n' a' b' c', ((¬ okS x ∧ th' = nI 1 ∧ n' = nm ∧ a' = nA ∧ b' = nB ∧ c' = nC) ∨ (∃ k, k < 8 ∧ x = nI k ∧ th' = nI 0 ∧ r = nI n' ∧ n' ≤ 60 ∧ ((¬ Em k = 0 ∧ n' = 1 ∧ a' = upd nA 0 (nI 0) ∧ b' = upd nB 0 (nI 0) ∧ c' = vp_updL nC 0 (-1)) ∨ (Em k = 0 ∧ ∃ Lf, (n', a', b', c') = lm_ndF (lm_lst (CF k) N nA nB nC Lf) YS)))) ∧ mS cJ cI cZ w b A N th' n' R Em Pt a' b' c') ∧ gF b (b + 11) ws w) (gw_B D classes (gT cJ cI cZ cS) ws sz) (va_A ws sz)) ([.ref (A 0), .int x] : List Value).toArray s 0 0 (va_A ws sz)) (F0 m 71 ls []) := by
          intro dd
          induction dd with
          | zero =>
            intro i e_i w H locs ls S m0 mR mE mD mO mM mP mA mB mC mL hS1 hm1 hg1 hfr hP hD hS hl
            have e0_i : (2 * N) = i := by omega
            subst e0_i
            refine lv_iload_n hx hb d_M_needed_71 rfl (lv_at hl 0 rfl) ?_
            refine lv_iconst (v := nI 2) hx hb d_M_needed_72 (by decide) ?_
            refine lv_aload_n hx hb d_M_needed_73 rfl (lv_at hl 1 rfl) ?_
            refine gf_M_42 hF hT hK hP m0 rfl d_M_needed_74 ?_
            refine lv_imul hx hb d_M_needed_77 ?_
            refine gx_i (y := nI (2 * N)) (pk_mul _ _) ?_
            refine lv_icmp_ge (tgt := 96) hx hb d_M_needed_78 (by decide) (fun c8 => ?_) (fun c8 => ?_)
            · have c8 := (nI_leI (a := (2 * N)) (b := (2 * N)) (by omega) (by omega)).mp c8
              refine lv_iconst (v := nI 0) hx hb d_M_needed_96 (by decide) ?_
              refine lv_istore_n (lv' := [(2, .int (nI 0)), (0, .ref (A 0)), (1, .int (nI k))]) hx hb d_M_needed_97 rfl hl (by decide) rfl (fun ls hl => ?_)
              have lp_98 : ∀ (dd i : Nat), i + dd = (2 * N) → ∀ (w : va_W) (H : Heap) (locs : List Loc) (ls : Array Slot) (S : lm_N), w[b]? = some (A 0, .inr (3, [.int (nI 0), .int (nI N), .ref (A 1), .ref (A 2), .ref (A 3), .ref (A 4), .ref (A 5), .ref (A 6), .int (nI S.1), .ref (A 7), .ref (A 8), .ref (A 9), .ref (A 10)])) → w[b + 1]? = some (A 1, .inl (cJ, 800, .inr (.inl R))) → w[b + 2]? = some (A 2, .inl (cZ, 8, .inl Em)) → w[b + 3]? = some (A 3, .inl (cJ, 100, .inr (.inl F6))) → w[b + 4]? = some (A 4, .inl (cJ, 100, .inr (.inl O))) → w[b + 5]? = some (A 5, .inl (cJ, 100, .inr (.inl Md))) → w[b + 6]? = some (A 6, .inl (cJ, 6, .inr (.inl Pt))) → w[b + 7]? = some (A 7, .inl (cI, 60, .inl S.2.1)) → w[b + 8]? = some (A 8, .inl (cI, 60, .inl S.2.2.1)) → w[b + 9]? = some (A 9, .inl (cJ, 60, .inr (.inl S.2.2.2.1))) → w[b + 10]? = some (A 10, .inl (cZ, 60, .inl S.2.2.2.2)) → (S = lm_t3 (CF k) (2 * N) i (lm_t1 (CF k) (2 * N) (0, nA, nB, nC, Lf))) → (S.1 + lr_rem N i ≤ 2 * (N * N)) → (lm_gd N S) → gF b (b + 11) ws w → va_P D classes w H → va_D (va_A ws sz) w → va_S (va_A ws sz) s.heap H locs → lv_has ls 4 [(2, .int (nI i)), (0, .ref (A 0)), (1, .int (nI k))] → W p l e ({ frames := 4, cells := 0, slots := 0, locals := 71 } : Room) s m ([.ref (A 0), .int x] : List Value).toArray below meth c H locs 0 0 (MQ below (va_Qi (fun r w => (∃ th' n' a' b' c', ((¬ okS x ∧ th' = nI 1 ∧ n' = nm ∧ a' = nA ∧ b' = nB ∧ c' = nC) ∨ (∃ k, k < 8 ∧ x = nI k ∧ th' = nI 0 ∧ r = nI n' ∧ n' ≤ 60 ∧ ((¬ Em k = 0 ∧ n' = 1 ∧ a' = upd nA 0 (nI 0) ∧ b' = upd nB 0 (nI 0) ∧ c' = vp_updL nC 0 (-1)) ∨ (Em k = 0 ∧ ∃ Lf, (n', a', b', c') = lm_ndF (lm_lst (CF k) N nA nB nC Lf) YS)))) ∧ mS cJ cI cZ w b A N th' n' R Em Pt a' b' c') ∧ gF b (b + 11) ws w) (gw_B D classes (gT cJ cI cZ cS) ws sz) (va_A ws sz)) ([.ref (A 0), .int x] : List Value).toArray s 0 0 (va_A ws sz)) (F0 m 98 ls []) := by
                intro dd
                induction dd with
                | zero =>
                  intro i e_i w H locs ls S m0 mR mE mD mO mM mP mA mB mC mL hS1 hm1 hg1 hfr hP hD hS hl
                  have e0_i : (2 * N) = i := by omega
                  subst e0_i
                  refine lv_iload_n hx hb d_M_needed_98 rfl (lv_at hl 0 rfl) ?_
                  refine lv_iconst (v := nI 2) hx hb d_M_needed_99 (by decide) ?_
                  refine lv_aload_n hx hb d_M_needed_100 rfl (lv_at hl 1 rfl) ?_
                  refine gf_M_42 hF hT hK hP m0 rfl d_M_needed_101 ?_
                  refine lv_imul hx hb d_M_needed_104 ?_
                  refine gx_i (y := nI (2 * N)) (pk_mul _ _) ?_
                  refine lv_icmp_ge (tgt := 150) hx hb d_M_needed_105 (by decide) (fun c9 => ?_) (fun c9 => ?_)
                  · have c9 := (nI_leI (a := (2 * N)) (b := (2 * N)) (by omega) (by omega)).mp c9
                    have hYk := hY k hk ek hE33 Lf
                    rw [show lm_lst (CF k) N nA nB nC Lf = S from hS1.symm] at hYk
                    refine lv_aload_n hx hb d_M_needed_150 rfl (lv_at hl 1 rfl) ?_
                    refine gf_M_150 hF hT hK hP m0 rfl d_M_needed_151 ?_
                    refine lv_iconst (v := nI 1) hx hb d_M_needed_154 (by decide) ?_
                    refine lv_isub hx hb d_M_needed_155 ?_
                    refine gx_i (y := nI S.1 - nI (0 + 1)) rfl ?_
                    refine lv_istore_n (lv' := [(2, .int (nI S.1 - nI (0 + 1))), (0, .ref (A 0)), (1, .int (nI k))]) hx hb d_M_needed_156 rfl hl (by decide) rfl (fun ls hl => ?_)
                    have lp_157 : ∀ (dd t : Nat), t + dd = S.1 → ∀ (w : va_W) (H : Heap) (locs : List Loc) (ls : Array Slot) (l1 : Nat → Int32) (F1 : Nat → Int64), w[b]? = some (A 0, .inr (3, [.int (nI 0), .int (nI N), .ref (A 1), .ref (A 2), .ref (A 3), .ref (A 4), .ref (A 5), .ref (A 6), .int (nI S.1), .ref (A 7), .ref (A 8), .ref (A 9), .ref (A 10)])) → w[b + 1]? = some (A 1, .inl (cJ, 800, .inr (.inl R))) → w[b + 2]? = some (A 2, .inl (cZ, 8, .inl Em)) → w[b + 3]? = some (A 3, .inl (cJ, 100, .inr (.inl F1))) → w[b + 4]? = some (A 4, .inl (cJ, 100, .inr (.inl O))) → w[b + 5]? = some (A 5, .inl (cJ, 100, .inr (.inl Md))) → w[b + 6]? = some (A 6, .inl (cJ, 6, .inr (.inl Pt))) → w[b + 7]? = some (A 7, .inl (cI, 60, .inl S.2.1)) → w[b + 8]? = some (A 8, .inl (cI, 60, .inl S.2.2.1)) → w[b + 9]? = some (A 9, .inl (cJ, 60, .inr (.inl S.2.2.2.1))) → w[b + 10]? = some (A 10, .inl (cZ, 60, .inl l1)) → (l1 = lm_el S YS t) → gF b (b + 11) ws w → va_P D classes w H → va_D (va_A ws sz) w → va_S (va_A ws sz) s.heap H locs → lv_has ls 4 [(2, .int (nI S.1 - nI (t + 1))), (0, .ref (A 0)), (1, .int (nI k))] → W p l e ({ frames := 4, cells := 0, slots := 0, locals := 71 } : Room) s m ([.ref (A 0), .int x] : List Value).toArray below meth c H locs 0 0 (MQ below (va_Qi (fun r w => (∃ th' n' a' b' c', ((¬ okS x ∧ th' = nI 1 ∧ n' = nm ∧ a' = nA ∧ b' = nB ∧ c' = nC) ∨ (∃ k, k < 8 ∧ x = nI k ∧ th' = nI 0 ∧ r = nI n' ∧ n' ≤ 60 ∧ ((¬ Em k = 0 ∧ n' = 1 ∧ a' = upd nA 0 (nI 0) ∧ b' = upd nB 0 (nI 0) ∧ c' = vp_updL nC 0 (-1)) ∨ (Em k = 0 ∧ ∃ Lf, (n', a', b', c') = lm_ndF (lm_lst (CF k) N nA nB nC Lf) YS)))) ∧ mS cJ cI cZ w b A N th' n' R Em Pt a' b' c') ∧ gF b (b + 11) ws w) (gw_B D classes (gT cJ cI cZ cS) ws sz) (va_A ws sz)) ([.ref (A 0), .int x] : List Value).toArray s 0 0 (va_A ws sz)) (F0 m 157 ls []) := by
                      intro dd
                      induction dd with
                      | zero =>
                        intro t e_t w H locs ls l1 F1 m0 mR mE mD mO mM mP mA mB mC mL hel hfr hP hD hS hl
                        have e0_t : S.1 = t := by omega
                        subst e0_t
                        refine lv_iload_n hx hb d_M_needed_157 rfl (lv_at hl 0 rfl) ?_
                        refine lv_if_lt (tgt := 286) hx hb d_M_needed_158 (by decide) (fun c10 => ?_) (fun c10 => ?_)
                        · refine lv_iconst (v := nI 0) hx hb d_M_needed_286 (by decide) ?_
                          refine lv_istore_n (lv' := [(2, .int (nI 0)), (0, .ref (A 0)), (1, .int (nI k))]) hx hb d_M_needed_287 rfl hl (by decide) rfl (fun ls hl => ?_)
                          refine lv_iconst (v := nI 0) hx hb d_M_needed_288 (by decide) ?_
                          refine lv_istore_n (lv' := [(3, .int (nI 0)), (2, .int (nI 0)), (0, .ref (A 0)), (1, .int (nI k))]) hx hb d_M_needed_289 rfl hl (by decide) rfl (fun ls hl => ?_)
                          have lp_290 : ∀ (dd q : Nat), q + dd = S.1 → ∀ (w : va_W) (H : Heap) (locs : List Loc) (ls : Array Slot) (Q : lm_Q), w[b]? = some (A 0, .inr (3, [.int (nI 0), .int (nI N), .ref (A 1), .ref (A 2), .ref (A 3), .ref (A 4), .ref (A 5), .ref (A 6), .int (nI S.1), .ref (A 7), .ref (A 8), .ref (A 9), .ref (A 10)])) → w[b + 1]? = some (A 1, .inl (cJ, 800, .inr (.inl R))) → w[b + 2]? = some (A 2, .inl (cZ, 8, .inl Em)) → w[b + 3]? = some (A 3, .inl (cJ, 100, .inr (.inl F1))) → w[b + 4]? = some (A 4, .inl (cJ, 100, .inr (.inl O))) → w[b + 5]? = some (A 5, .inl (cJ, 100, .inr (.inl Md))) → w[b + 6]? = some (A 6, .inl (cJ, 6, .inr (.inl Pt))) → w[b + 7]? = some (A 7, .inl (cI, 60, .inl Q.2.1)) → w[b + 8]? = some (A 8, .inl (cI, 60, .inl Q.2.2.1)) → w[b + 9]? = some (A 9, .inl (cJ, 60, .inr (.inl Q.2.2.2))) → w[b + 10]? = some (A 10, .inl (cZ, 60, .inl l1)) → (Q = lm_cmF (lm_el S YS S.1) q (0, S.2.1, S.2.2.1, S.2.2.2.1)) → (Q.1 ≤ q) → gF b (b + 11) ws w → va_P D classes w H → va_D (va_A ws sz) w → va_S (va_A ws sz) s.heap H locs → lv_has ls 4 [(3, .int (nI q)), (2, .int (nI Q.1)), (0, .ref (A 0)), (1, .int (nI k))] → W p l e ({ frames := 4, cells := 0, slots := 0, locals := 71 } : Room) s m ([.ref (A 0), .int x] : List Value).toArray below meth c H locs 0 0 (MQ below (va_Qi (fun r w => (∃ th' n' a' b' c', ((¬ okS x ∧ th' = nI 1 ∧ n' = nm ∧ a' = nA ∧ b' = nB ∧ c' = nC) ∨ (∃ k, k < 8 ∧ x = nI k ∧ th' = nI 0 ∧ r = nI n' ∧ n' ≤ 60 ∧ ((¬ Em k = 0 ∧ n' = 1 ∧ a' = upd nA 0 (nI 0) ∧ b' = upd nB 0 (nI 0) ∧ c' = vp_updL nC 0 (-1)) ∨ (Em k = 0 ∧ ∃ Lf, (n', a', b', c') = lm_ndF (lm_lst (CF k) N nA nB nC Lf) YS)))) ∧ mS cJ cI cZ w b A N th' n' R Em Pt a' b' c') ∧ gF b (b + 11) ws w) (gw_B D classes (gT cJ cI cZ cS) ws sz) (va_A ws sz)) ([.ref (A 0), .int x] : List Value).toArray s 0 0 (va_A ws sz)) (F0 m 290 ls []) := by
                            intro dd
                            induction dd with
                            | zero =>
                              intro q e_q w H locs ls Q m0 mR mE mD mO mM mP mA mB mC mL hQ hQ1 hfr hP hD hS hl
                              have e0_q : S.1 = q := by omega
                              subst e0_q
                              refine lv_iload_n hx hb d_M_needed_290 rfl (lv_at hl 0 rfl) ?_
                              refine lv_aload_n hx hb d_M_needed_291 rfl (lv_at hl 2 rfl) ?_
                              refine gf_M_150 hF hT hK hP m0 rfl d_M_needed_292 ?_
                              refine lv_icmp_ge (tgt := 352) hx hb d_M_needed_295 (by decide) (fun c11 => ?_) (fun c11 => ?_)
                              · have c11 := (nI_leI (a := S.1) (b := S.1) (by omega) (by omega)).mp c11
                                refine lv_aload_n hx hb d_M_needed_352 rfl (lv_at hl 2 rfl) ?_
                                refine lv_iload_n hx hb d_M_needed_353 rfl (lv_at hl 1 rfl) ?_
                                refine gp_M_150 hF hT hK hP hD hS (fs1 := [.int (nI 0), .int (nI N), .ref (A 1), .ref (A 2), .ref (A 3), .ref (A 4), .ref (A 5), .ref (A 6), .int (nI Q.1), .ref (A 7), .ref (A 8), .ref (A 9), .ref (A 10)]) m0 rfl rfl (Nat.le_of_ble_eq_true rfl) rfl d_M_needed_354 (fun w H locs m0 hf hP hD hS => ?_)
                                have mR := hf.at mR (by omega)
                                have mE := hf.at mE (by omega)
                                have mD := hf.at mD (by omega)
                                have mO := hf.at mO (by omega)
                                have mM := hf.at mM (by omega)
                                have mP := hf.at mP (by omega)
                                have mA := hf.at mA (by omega)
                                have mB := hf.at mB (by omega)
                                have mC := hf.at mC (by omega)
                                have mL := hf.at mL (by omega)
                                have hfr := hfr.in hf (by omega) (by omega)
                                refine lv_aload_n hx hb d_M_needed_357 rfl (lv_at hl 2 rfl) ?_
                                refine gf_M_150 hF hT hK hP m0 rfl d_M_needed_358 ?_
                                exact gw_iret hx hb hr hlocks hK hP hD hS (Nat.le_of_ble_eq_true rfl) (Nat.le_of_ble_eq_true rfl) d_M_needed_361 ⟨⟨_, _, _, _, _, Or.inr ⟨k, hk, ek, rfl, rfl, by omega, Or.inr ⟨hE33, Lf, by rw [show lm_lst (CF k) N nA nB nC Lf = S from hS1.symm]; exact hQ⟩⟩, ⟨_, _, _, _, m0, mR, mE, mD, mO, mM, mP, mA, mB, mC, mL⟩⟩, hfr⟩
                              · have c11 : ¬ (S.1 ≤ S.1) := fun z => c11 ((nI_leI (a := S.1) (b := S.1) (by omega) (by omega)).mpr z)
                                exfalso; omega
                            | succ dd ih_290 =>
                              intro q e_q w H locs ls Q m0 mR mE mD mO mM mP mA mB mC mL hQ hQ1 hfr hP hD hS hl
                              refine lv_iload_n hx hb d_M_needed_290 rfl (lv_at hl 0 rfl) ?_
                              refine lv_aload_n hx hb d_M_needed_291 rfl (lv_at hl 2 rfl) ?_
                              refine gf_M_150 hF hT hK hP m0 rfl d_M_needed_292 ?_
                              refine lv_icmp_ge (tgt := 352) hx hb d_M_needed_295 (by decide) (fun c12 => ?_) (fun c12 => ?_)
                              · have c12 := (nI_leI (a := S.1) (b := q) (by omega) (by omega)).mp c12
                                exfalso; omega
                              · have c12 : ¬ (S.1 ≤ q) := fun z => c12 ((nI_leI (a := S.1) (b := q) (by omega) (by omega)).mpr z)
                                refine lv_aload_n hx hb d_M_needed_298 rfl (lv_at hl 2 rfl) ?_
                                refine gf_M_39 hF hT hK hP m0 rfl d_M_needed_299 ?_
                                refine lv_iload_n hx hb d_M_needed_302 rfl (lv_at hl 0 rfl) ?_
                                refine g_zald (t0 := 2) (k := q) hx hb hK hP mL rfl (by omega) (by omega) d_M_needed_303 ?_
                                refine lv_if_eq (tgt := 346) hx hb d_M_needed_304 (by decide) (fun c13 => ?_) (fun c13 => ?_)
                                · refine lv_iinc (v := nI (q + 1)) (lv' := [(3, .int (nI (q + 1))), (2, .int (nI Q.1)), (0, .ref (A 0)), (1, .int (nI k))]) hx hb d_M_needed_346 hl (k := 0) rfl (gx_inc _) (by decide) rfl (fun ls hl => ?_)
                                  refine lv_goto (tgt := 290) hx hb d_M_needed_349 (by decide) ?_
                                  exact ih_290 (q + 1) (by omega) _ _ _ _ Q m0 mR mE mD mO mM mP mA mB mC mL (lm_cm_0 hel hQ c13) (show _ ≤ q + 1 from by first | exact Nat.le_succ_of_le hQ1 | exact Nat.succ_le_succ hQ1) hfr hP hD hS (lv_sub hl [0, 1, 2, 3] rfl)
                                · refine lv_aload_n hx hb d_M_needed_307 rfl (lv_at hl 2 rfl) ?_
                                  refine gf_M_29 hF hT hK hP m0 rfl d_M_needed_308 ?_
                                  refine lv_iload_n hx hb d_M_needed_311 rfl (lv_at hl 1 rfl) ?_
                                  refine lv_aload_n hx hb d_M_needed_312 rfl (lv_at hl 2 rfl) ?_
                                  refine gf_M_29 hF hT hK hP m0 rfl d_M_needed_313 ?_
                                  refine lv_iload_n hx hb d_M_needed_316 rfl (lv_at hl 0 rfl) ?_
                                  refine g_iald (t0 := 1) (k := q) hx hb hK hP mA rfl (by omega) (by omega) d_M_needed_317 ?_
                                  refine g_iast (t0 := 1) (k := Q.1) hx hb hK hP hD hS mA rfl (by omega) (by omega) d_M_needed_318 (fun w H locs mA hf hP hD hS => ?_)
                                  have m0 := hf.at m0 (by omega)
                                  have mR := hf.at mR (by omega)
                                  have mE := hf.at mE (by omega)
                                  have mD := hf.at mD (by omega)
                                  have mO := hf.at mO (by omega)
                                  have mM := hf.at mM (by omega)
                                  have mP := hf.at mP (by omega)
                                  have mB := hf.at mB (by omega)
                                  have mC := hf.at mC (by omega)
                                  have mL := hf.at mL (by omega)
                                  have hfr := hfr.in hf (by omega) (by omega)
                                  refine lv_aload_n hx hb d_M_needed_319 rfl (lv_at hl 2 rfl) ?_
                                  refine gf_M_33 hF hT hK hP m0 rfl d_M_needed_320 ?_
                                  refine lv_iload_n hx hb d_M_needed_323 rfl (lv_at hl 1 rfl) ?_
                                  refine lv_aload_n hx hb d_M_needed_324 rfl (lv_at hl 2 rfl) ?_
                                  refine gf_M_33 hF hT hK hP m0 rfl d_M_needed_325 ?_
                                  refine lv_iload_n hx hb d_M_needed_328 rfl (lv_at hl 0 rfl) ?_
                                  refine g_iald (t0 := 1) (k := q) hx hb hK hP mB rfl (by omega) (by omega) d_M_needed_329 ?_
                                  refine g_iast (t0 := 1) (k := Q.1) hx hb hK hP hD hS mB rfl (by omega) (by omega) d_M_needed_330 (fun w H locs mB hf hP hD hS => ?_)
                                  have m0 := hf.at m0 (by omega)
                                  have mR := hf.at mR (by omega)
                                  have mE := hf.at mE (by omega)
                                  have mD := hf.at mD (by omega)
                                  have mO := hf.at mO (by omega)
                                  have mM := hf.at mM (by omega)
                                  have mP := hf.at mP (by omega)
                                  have mA := hf.at mA (by omega)
                                  have mC := hf.at mC (by omega)
                                  have mL := hf.at mL (by omega)
                                  have hfr := hfr.in hf (by omega) (by omega)
                                  refine lv_aload_n hx hb d_M_needed_331 rfl (lv_at hl 2 rfl) ?_
                                  refine gf_M_36 hF hT hK hP m0 rfl d_M_needed_332 ?_
                                  refine lv_iload_n hx hb d_M_needed_335 rfl (lv_at hl 1 rfl) ?_
                                  refine lv_aload_n hx hb d_M_needed_336 rfl (lv_at hl 2 rfl) ?_
                                  refine gf_M_36 hF hT hK hP m0 rfl d_M_needed_337 ?_
                                  refine lv_iload_n hx hb d_M_needed_340 rfl (lv_at hl 0 rfl) ?_
                                  refine g_lald (t0 := 0) (k := q) hx hb hK hP mC rfl (by omega) (by omega) d_M_needed_341 ?_
                                  refine g_last (t0 := 0) (k := Q.1) hx hb hK hP hD hS mC rfl (by omega) (by omega) d_M_needed_342 (fun w H locs mC hf hP hD hS => ?_)
                                  have m0 := hf.at m0 (by omega)
                                  have mR := hf.at mR (by omega)
                                  have mE := hf.at mE (by omega)
                                  have mD := hf.at mD (by omega)
                                  have mO := hf.at mO (by omega)
                                  have mM := hf.at mM (by omega)
                                  have mP := hf.at mP (by omega)
                                  have mA := hf.at mA (by omega)
                                  have mB := hf.at mB (by omega)
                                  have mL := hf.at mL (by omega)
                                  have hfr := hfr.in hf (by omega) (by omega)
                                  refine lv_iinc (v := nI (Q.1 + 1)) (lv' := [(2, .int (nI (Q.1 + 1))), (3, .int (nI q)), (0, .ref (A 0)), (1, .int (nI k))]) hx hb d_M_needed_343 hl (k := 1) rfl (gx_inc _) (by decide) rfl (fun ls hl => ?_)
                                  refine lv_iinc (v := nI (q + 1)) (lv' := [(3, .int (nI (q + 1))), (2, .int (nI (Q.1 + 1))), (0, .ref (A 0)), (1, .int (nI k))]) hx hb d_M_needed_346 hl (k := 1) rfl (gx_inc _) (by decide) rfl (fun ls hl => ?_)
                                  refine lv_goto (tgt := 290) hx hb d_M_needed_349 (by decide) ?_
                                  exact ih_290 (q + 1) (by omega) _ _ _ _ (Q.1 + 1, upd Q.2.1 Q.1 (Q.2.1 q), upd Q.2.2.1 Q.1 (Q.2.2.1 q), vp_updL Q.2.2.2 Q.1 (Q.2.2.2 q)) m0 mR mE mD mO mM mP mA mB mC mL (lm_cm_1 hel hQ c13) (show _ ≤ q + 1 from by first | exact Nat.le_succ_of_le hQ1 | exact Nat.succ_le_succ hQ1) hfr hP hD hS (lv_sub hl [0, 1, 2, 3] rfl)
                          exact lp_290 S.1 0 (by omega) _ _ _ _ (0, S.2.1, S.2.2.1, S.2.2.2.1) m0 mR mE mD mO mM mP mA mB mC mL rfl (Nat.le_refl _) hfr hP hD hS (lv_sub hl [0, 1, 2, 3] rfl)
                        · exact absurd (pk_sneg (by omega) (by omega)) c10
                      | succ dd ih_157 =>
                        intro t e_t w H locs ls l1 F1 m0 mR mE mD mO mM mP mA mB mC mL hel hfr hP hD hS hl
                        rw [pk_sub (by omega)] at hl
                        refine lv_iload_n hx hb d_M_needed_157 rfl (lv_at hl 0 rfl) ?_
                        refine lv_if_lt (tgt := 286) hx hb d_M_needed_158 (by decide) (fun c14 => ?_) (fun c14 => ?_)
                        · have c14 := (nI_ltI (a := (S.1 - (t + 1))) (b := 0) (by omega) (by omega)).mp c14
                          exfalso; omega
                        · have c14 : ¬ (S.1 - (t + 1) < 0) := fun z => c14 ((nI_ltI (a := (S.1 - (t + 1))) (b := 0) (by omega) (by omega)).mpr z)
                          refine lv_aload_n hx hb d_M_needed_161 rfl (lv_at hl 1 rfl) ?_
                          refine gf_M_39 hF hT hK hP m0 rfl d_M_needed_162 ?_
                          refine lv_iload_n hx hb d_M_needed_165 rfl (lv_at hl 0 rfl) ?_
                          refine lv_iconst (v := nI 0) hx hb d_M_needed_166 (by decide) ?_
                          refine g_zast (t0 := 2) (k := S.1 - (t + 1)) hx hb hK hP hD hS mL rfl (by omega) (by omega) (Or.inl rfl) d_M_needed_167 (fun w H locs mL hf hP hD hS => ?_)
                          have m0 := hf.at m0 (by omega)
                          have mR := hf.at mR (by omega)
                          have mE := hf.at mE (by omega)
                          have mD := hf.at mD (by omega)
                          have mO := hf.at mO (by omega)
                          have mM := hf.at mM (by omega)
                          have mP := hf.at mP (by omega)
                          have mA := hf.at mA (by omega)
                          have mB := hf.at mB (by omega)
                          have mC := hf.at mC (by omega)
                          have hfr := hfr.in hf (by omega) (by omega)
                          refine lv_iconst (v := nI 0) hx hb d_M_needed_168 (by decide) ?_
                          refine lv_istore_n (lv' := [(3, .int (nI 0)), (2, .int (nI (S.1 - (t + 1)))), (0, .ref (A 0)), (1, .int (nI k))]) hx hb d_M_needed_169 rfl hl (by decide) rfl (fun ls hl => ?_)
                          have lp_170 : ∀ (dd u : Nat), u + dd = 100 → ∀ (w : va_W) (H : Heap) (locs : List Loc) (ls : Array Slot), w[b]? = some (A 0, .inr (3, [.int (nI 0), .int (nI N), .ref (A 1), .ref (A 2), .ref (A 3), .ref (A 4), .ref (A 5), .ref (A 6), .int (nI S.1), .ref (A 7), .ref (A 8), .ref (A 9), .ref (A 10)])) → w[b + 1]? = some (A 1, .inl (cJ, 800, .inr (.inl R))) → w[b + 2]? = some (A 2, .inl (cZ, 8, .inl Em)) → w[b + 3]? = some (A 3, .inl (cJ, 100, .inr (.inl (lr_it (fun k D => vp_updL D k lr_E) u F1)))) → w[b + 4]? = some (A 4, .inl (cJ, 100, .inr (.inl O))) → w[b + 5]? = some (A 5, .inl (cJ, 100, .inr (.inl Md))) → w[b + 6]? = some (A 6, .inl (cJ, 6, .inr (.inl Pt))) → w[b + 7]? = some (A 7, .inl (cI, 60, .inl S.2.1)) → w[b + 8]? = some (A 8, .inl (cI, 60, .inl S.2.2.1)) → w[b + 9]? = some (A 9, .inl (cJ, 60, .inr (.inl S.2.2.2.1))) → w[b + 10]? = some (A 10, .inl (cZ, 60, .inl (upd l1 (S.1 - (t + 1)) (nI 0)))) → gF b (b + 11) ws w → va_P D classes w H → va_D (va_A ws sz) w → va_S (va_A ws sz) s.heap H locs → lv_has ls 4 [(3, .int (nI u)), (2, .int (nI (S.1 - (t + 1)))), (0, .ref (A 0)), (1, .int (nI k))] → W p l e ({ frames := 4, cells := 0, slots := 0, locals := 71 } : Room) s m ([.ref (A 0), .int x] : List Value).toArray below meth c H locs 0 0 (MQ below (va_Qi (fun r w => (∃ th' n' a' b' c', ((¬ okS x ∧ th' = nI 1 ∧ n' = nm ∧ a' = nA ∧ b' = nB ∧ c' = nC) ∨ (∃ k, k < 8 ∧ x = nI k ∧ th' = nI 0 ∧ r = nI n' ∧ n' ≤ 60 ∧ ((¬ Em k = 0 ∧ n' = 1 ∧ a' = upd nA 0 (nI 0) ∧ b' = upd nB 0 (nI 0) ∧ c' = vp_updL nC 0 (-1)) ∨ (Em k = 0 ∧ ∃ Lf, (n', a', b', c') = lm_ndF (lm_lst (CF k) N nA nB nC Lf) YS)))) ∧ mS cJ cI cZ w b A N th' n' R Em Pt a' b' c') ∧ gF b (b + 11) ws w) (gw_B D classes (gT cJ cI cZ cS) ws sz) (va_A ws sz)) ([.ref (A 0), .int x] : List Value).toArray s 0 0 (va_A ws sz)) (F0 m 170 ls []) := by
                            intro dd
                            induction dd with
                            | zero =>
                              intro u e_u w H locs ls m0 mR mE mD mO mM mP mA mB mC mL hfr hP hD hS hl
                              have e0_u : 100 = u := by omega
                              subst e0_u
                              refine lv_iload_n hx hb d_M_needed_170 rfl (lv_at hl 0 rfl) ?_
                              refine lv_bipush (v := nI 100) hx hb d_M_needed_171 (by decide) ?_
                              refine lv_icmp_ge (tgt := 191) hx hb d_M_needed_173 (by decide) (fun c15 => ?_) (fun c15 => ?_)
                              · have c15 := (nI_leI (a := 100) (b := 100) (by omega) (by omega)).mp c15
                                refine lv_iconst (v := nI 0) hx hb d_M_needed_191 (by decide) ?_
                                refine lv_istore_n (lv' := [(3, .int (nI 0)), (2, .int (nI (S.1 - (t + 1)))), (0, .ref (A 0)), (1, .int (nI k))]) hx hb d_M_needed_192 rfl hl (by decide) rfl (fun ls hl => ?_)
                                have lp_193 : ∀ (dd q : Nat), q + dd = S.1 → ∀ (w : va_W) (H : Heap) (locs : List Loc) (ls : Array Slot) (F2 : Nat → Int64), w[b]? = some (A 0, .inr (3, [.int (nI 0), .int (nI N), .ref (A 1), .ref (A 2), .ref (A 3), .ref (A 4), .ref (A 5), .ref (A 6), .int (nI S.1), .ref (A 7), .ref (A 8), .ref (A 9), .ref (A 10)])) → w[b + 1]? = some (A 1, .inl (cJ, 800, .inr (.inl R))) → w[b + 2]? = some (A 2, .inl (cZ, 8, .inl Em)) → w[b + 3]? = some (A 3, .inl (cJ, 100, .inr (.inl F2))) → w[b + 4]? = some (A 4, .inl (cJ, 100, .inr (.inl O))) → w[b + 5]? = some (A 5, .inl (cJ, 100, .inr (.inl Md))) → w[b + 6]? = some (A 6, .inl (cJ, 6, .inr (.inl Pt))) → w[b + 7]? = some (A 7, .inl (cI, 60, .inl S.2.1)) → w[b + 8]? = some (A 8, .inl (cI, 60, .inl S.2.2.1)) → w[b + 9]? = some (A 9, .inl (cJ, 60, .inr (.inl S.2.2.2.1))) → w[b + 10]? = some (A 10, .inl (cZ, 60, .inl (upd l1 (S.1 - (t + 1)) (nI 0)))) → (lm_ag N F2 (lm_bld S (upd l1 (S.1 - (t + 1)) (nI 0)) q)) → gF b (b + 11) ws w → va_P D classes w H → va_D (va_A ws sz) w → va_S (va_A ws sz) s.heap H locs → lv_has ls 4 [(3, .int (nI q)), (2, .int (nI (S.1 - (t + 1)))), (0, .ref (A 0)), (1, .int (nI k))] → W p l e ({ frames := 4, cells := 0, slots := 0, locals := 71 } : Room) s m ([.ref (A 0), .int x] : List Value).toArray below meth c H locs 0 0 (MQ below (va_Qi (fun r w => (∃ th' n' a' b' c', ((¬ okS x ∧ th' = nI 1 ∧ n' = nm ∧ a' = nA ∧ b' = nB ∧ c' = nC) ∨ (∃ k, k < 8 ∧ x = nI k ∧ th' = nI 0 ∧ r = nI n' ∧ n' ≤ 60 ∧ ((¬ Em k = 0 ∧ n' = 1 ∧ a' = upd nA 0 (nI 0) ∧ b' = upd nB 0 (nI 0) ∧ c' = vp_updL nC 0 (-1)) ∨ (Em k = 0 ∧ ∃ Lf, (n', a', b', c') = lm_ndF (lm_lst (CF k) N nA nB nC Lf) YS)))) ∧ mS cJ cI cZ w b A N th' n' R Em Pt a' b' c') ∧ gF b (b + 11) ws w) (gw_B D classes (gT cJ cI cZ cS) ws sz) (va_A ws sz)) ([.ref (A 0), .int x] : List Value).toArray s 0 0 (va_A ws sz)) (F0 m 193 ls []) := by
                                  intro dd
                                  induction dd with
                                  | zero =>
                                    intro q e_q w H locs ls F2 m0 mR mE mD mO mM mP mA mB mC mL hag2 hfr hP hD hS hl
                                    have e0_q : S.1 = q := by omega
                                    subst e0_q
                                    refine lv_iload_n hx hb d_M_needed_193 rfl (lv_at hl 0 rfl) ?_
                                    refine lv_aload_n hx hb d_M_needed_194 rfl (lv_at hl 2 rfl) ?_
                                    refine gf_M_150 hF hT hK hP m0 rfl d_M_needed_195 ?_
                                    refine lv_icmp_ge (tgt := 238) hx hb d_M_needed_198 (by decide) (fun c16 => ?_) (fun c16 => ?_)
                                    · have c16 := (nI_leI (a := S.1) (b := S.1) (by omega) (by omega)).mp c16
                                      refine lv_aload_n hx hb d_M_needed_238 rfl (lv_at hl 2 rfl) ?_
                                      refine gw_ci (gc_M_69 (As := []) (rest := []) hF hT (c_M_close m0 mD hN1 hN5 hag2 (by have h9 := hYk t (by omega); rw [← hel] at h9; exact h9)) ⟨(Nat.le_of_ble_eq_true rfl), (Nat.le_of_ble_eq_true rfl)⟩ rfl rfl hK hN hP hD m0 rfl hl.1 rfl (Nat.le_of_ble_eq_true rfl) d_M_needed_239 ⟨(Nat.le_of_ble_eq_true rfl), (Nat.le_of_ble_eq_true rfl)⟩) hD hS hA (fun r17 w H locs hw hP hD hS => ?_)
                                      obtain ⟨⟨F18, mD, h_r17⟩, hf⟩ := hw
                                      have m0 := hf.at m0 (by omega)
                                      have mR := hf.at mR (by omega)
                                      have mE := hf.at mE (by omega)
                                      have mO := hf.at mO (by omega)
                                      have mM := hf.at mM (by omega)
                                      have mP := hf.at mP (by omega)
                                      have mA := hf.at mA (by omega)
                                      have mB := hf.at mB (by omega)
                                      have mC := hf.at mC (by omega)
                                      have mL := hf.at mL (by omega)
                                      have hfr := hfr.in hf (by omega) (by omega)
                                      refine lv_istore_n (lv' := [(3, .int r17), (2, .int (nI (S.1 - (t + 1)))), (0, .ref (A 0)), (1, .int (nI k))]) hx hb d_M_needed_242 rfl hl (by decide) rfl (fun ls hl => ?_)
                                      refine lv_aload_n hx hb d_M_needed_243 rfl (lv_at hl 2 rfl) ?_
                                      refine gf_M_39 hF hT hK hP m0 rfl d_M_needed_244 ?_
                                      refine lv_iload_n hx hb d_M_needed_247 rfl (lv_at hl 1 rfl) ?_
                                      have mg_279 : ∀ (H : Heap) (locs : List Loc), va_P D classes w H → va_D (va_A ws sz) w → va_S (va_A ws sz) s.heap H locs → W p l e ({ frames := 4, cells := 0, slots := 0, locals := 71 } : Room) s m ([.ref (A 0), .int x] : List Value).toArray below meth c H locs 0 0 (MQ below (va_Qi (fun r w => (∃ th' n' a' b' c', ((¬ okS x ∧ th' = nI 1 ∧ n' = nm ∧ a' = nA ∧ b' = nB ∧ c' = nC) ∨ (∃ k, k < 8 ∧ x = nI k ∧ th' = nI 0 ∧ r = nI n' ∧ n' ≤ 60 ∧ ((¬ Em k = 0 ∧ n' = 1 ∧ a' = upd nA 0 (nI 0) ∧ b' = upd nB 0 (nI 0) ∧ c' = vp_updL nC 0 (-1)) ∨ (Em k = 0 ∧ ∃ Lf, (n', a', b', c') = lm_ndF (lm_lst (CF k) N nA nB nC Lf) YS)))) ∧ mS cJ cI cZ w b A N th' n' R Em Pt a' b' c') ∧ gF b (b + 11) ws w) (gw_B D classes (gT cJ cI cZ cS) ws sz) (va_A ws sz)) ([.ref (A 0), .int x] : List Value).toArray s 0 0 (va_A ws sz)) (F0 m 279 ls [.int (lm_gt (lm_bd (YS (S.1 - (t + 1))) (S.2.1 (S.1 - (t + 1))) (S.2.2.1 (S.1 - (t + 1)))) (S.2.2.2.1 (S.1 - (t + 1)))), .int (nI (S.1 - (t + 1))), .ref (A 10)]) := by
                                        intro H locs hP hD hS
                                        refine g_zast (t0 := 2) (k := S.1 - (t + 1)) hx hb hK hP hD hS mL rfl (by omega) (by omega) lm_gt_b d_M_needed_279 (fun w H locs mL hf hP hD hS => ?_)
                                        have m0 := hf.at m0 (by omega)
                                        have mR := hf.at mR (by omega)
                                        have mE := hf.at mE (by omega)
                                        have mD := hf.at mD (by omega)
                                        have mO := hf.at mO (by omega)
                                        have mM := hf.at mM (by omega)
                                        have mP := hf.at mP (by omega)
                                        have mA := hf.at mA (by omega)
                                        have mB := hf.at mB (by omega)
                                        have mC := hf.at mC (by omega)
                                        have hfr := hfr.in hf (by omega) (by omega)
                                        refine lv_iinc (v := nI S.1 - nI (t + 1 + 1)) (lv' := [(2, .int (nI S.1 - nI (t + 1 + 1))), (3, .int r17), (0, .ref (A 0)), (1, .int (nI k))]) hx hb d_M_needed_280 hl (k := 1) rfl (gx_dec (by omega) (by omega)) (by decide) rfl (fun ls hl => ?_)
                                        refine lv_goto (tgt := 157) hx hb d_M_needed_283 (by decide) ?_
                                        exact ih_157 (t + 1) (by omega) _ _ _ _ _ _ m0 mR mE mD mO mM mP mA mB mC mL (by rw [hel]; rfl) hfr hP hD hS (lv_sub hl [0, 2, 3] rfl)
                                      refine lv_aload_n hx hb d_M_needed_248 rfl (lv_at hl 2 rfl) ?_
                                      refine lv_aload_n hx hb d_M_needed_249 rfl (lv_at hl 2 rfl) ?_
                                      refine gf_M_29 hF hT hK hP m0 rfl d_M_needed_250 ?_
                                      refine lv_iload_n hx hb d_M_needed_253 rfl (lv_at hl 1 rfl) ?_
                                      refine g_iald (t0 := 1) (k := S.1 - (t + 1)) hx hb hK hP mA rfl (by omega) (by omega) d_M_needed_254 ?_
                                      refine lv_aload_n hx hb d_M_needed_255 rfl (lv_at hl 2 rfl) ?_
                                      refine gf_M_33 hF hT hK hP m0 rfl d_M_needed_256 ?_
                                      refine lv_iload_n hx hb d_M_needed_259 rfl (lv_at hl 1 rfl) ?_
                                      refine g_iald (t0 := 1) (k := S.1 - (t + 1)) hx hb hK hP mB rfl (by omega) (by omega) d_M_needed_260 ?_
                                      refine gw_cl0 (gc_M_104 (As := [.int (S.2.1 (S.1 - (t + 1))), .int (S.2.2.1 (S.1 - (t + 1)))]) (rest := [.int (nI (S.1 - (t + 1))), .ref (A 10)]) hF hT (c_M_boundOf m0 mD hN1 hN5 h_r17.s.2 (hg1 (S.1 - (t + 1)) (by omega)).1 (hg1 (S.1 - (t + 1)) (by omega)).2.1) ⟨(Nat.le_of_ble_eq_true rfl), (Nat.le_of_ble_eq_true rfl)⟩ rfl rfl hK hN hP hD m0 rfl hl.1 rfl (Nat.le_of_ble_eq_true rfl) d_M_needed_261 ⟨(Nat.le_of_ble_eq_true rfl), (Nat.le_of_ble_eq_true rfl)⟩) hD hS hA (fun r19 H locs e_r19 hP hD hS => ?_)
                                      subst e_r19
                                      refine lv_aload_n hx hb d_M_needed_264 rfl (lv_at hl 2 rfl) ?_
                                      refine gf_M_36 hF hT hK hP m0 rfl d_M_needed_265 ?_
                                      refine lv_iload_n hx hb d_M_needed_268 rfl (lv_at hl 1 rfl) ?_
                                      refine g_lald (t0 := 0) (k := S.1 - (t + 1)) hx hb hK hP mC rfl (by omega) (by omega) d_M_needed_269 ?_
                                      refine gx_lle (tgt := 278) hx hb d_M_needed_270 d_M_needed_271 (by decide) (fun c20 => ?_) (fun c20 => ?_)
                                      · refine lv_iconst (v := nI 0) hx hb d_M_needed_278 (by decide) ?_
                                        exact gx_i (y := lm_gt (lm_bd (YS (S.1 - (t + 1))) (S.2.1 (S.1 - (t + 1))) (S.2.2.1 (S.1 - (t + 1)))) (S.2.2.2.1 (S.1 - (t + 1)))) (by unfold lm_gt; rw [if_pos c20]) (mg_279 _ _ hP hD hS)
                                      · refine lv_iconst (v := nI 1) hx hb d_M_needed_274 (by decide) ?_
                                        refine lv_goto (tgt := 279) hx hb d_M_needed_275 (by decide) ?_
                                        exact gx_i (y := lm_gt (lm_bd (YS (S.1 - (t + 1))) (S.2.1 (S.1 - (t + 1))) (S.2.2.1 (S.1 - (t + 1)))) (S.2.2.2.1 (S.1 - (t + 1)))) (by unfold lm_gt; rw [if_neg c20]) (mg_279 _ _ hP hD hS)
                                    · have c16 : ¬ (S.1 ≤ S.1) := fun z => c16 ((nI_leI (a := S.1) (b := S.1) (by omega) (by omega)).mpr z)
                                      exfalso; omega
                                  | succ dd ih_193 =>
                                    intro q e_q w H locs ls F2 m0 mR mE mD mO mM mP mA mB mC mL hag2 hfr hP hD hS hl
                                    refine lv_iload_n hx hb d_M_needed_193 rfl (lv_at hl 0 rfl) ?_
                                    refine lv_aload_n hx hb d_M_needed_194 rfl (lv_at hl 2 rfl) ?_
                                    refine gf_M_150 hF hT hK hP m0 rfl d_M_needed_195 ?_
                                    refine lv_icmp_ge (tgt := 238) hx hb d_M_needed_198 (by decide) (fun c21 => ?_) (fun c21 => ?_)
                                    · have c21 := (nI_leI (a := S.1) (b := q) (by omega) (by omega)).mp c21
                                      exfalso; omega
                                    · have c21 : ¬ (S.1 ≤ q) := fun z => c21 ((nI_leI (a := S.1) (b := q) (by omega) (by omega)).mpr z)
                                      refine lv_aload_n hx hb d_M_needed_201 rfl (lv_at hl 2 rfl) ?_
                                      refine gf_M_39 hF hT hK hP m0 rfl d_M_needed_202 ?_
                                      refine lv_iload_n hx hb d_M_needed_205 rfl (lv_at hl 0 rfl) ?_
                                      refine g_zald (t0 := 2) (k := q) hx hb hK hP mL rfl (by omega) (by omega) d_M_needed_206 ?_
                                      refine lv_if_eq (tgt := 232) hx hb d_M_needed_207 (by decide) (fun c22 => ?_) (fun c22 => ?_)
                                      · refine lv_iinc (v := nI (q + 1)) (lv' := [(3, .int (nI (q + 1))), (2, .int (nI (S.1 - (t + 1)))), (0, .ref (A 0)), (1, .int (nI k))]) hx hb d_M_needed_232 hl (k := 0) rfl (gx_inc _) (by decide) rfl (fun ls hl => ?_)
                                        refine lv_goto (tgt := 193) hx hb d_M_needed_235 (by decide) ?_
                                        exact ih_193 (q + 1) (by omega) _ _ _ _ _ m0 mR mE mD mO mM mP mA mB mC mL (by show lm_ag N _ (ite _ _ _); rw [if_pos c22]; exact hag2) hfr hP hD hS (lv_sub hl [0, 1, 2, 3] rfl)
                                      · refine lv_aload_n hx hb d_M_needed_210 rfl (lv_at hl 2 rfl) ?_
                                        refine lv_aload_n hx hb d_M_needed_211 rfl (lv_at hl 2 rfl) ?_
                                        refine gf_M_29 hF hT hK hP m0 rfl d_M_needed_212 ?_
                                        refine lv_iload_n hx hb d_M_needed_215 rfl (lv_at hl 0 rfl) ?_
                                        refine g_iald (t0 := 1) (k := q) hx hb hK hP mA rfl (by omega) (by omega) d_M_needed_216 ?_
                                        refine lv_aload_n hx hb d_M_needed_217 rfl (lv_at hl 2 rfl) ?_
                                        refine gf_M_33 hF hT hK hP m0 rfl d_M_needed_218 ?_
                                        refine lv_iload_n hx hb d_M_needed_221 rfl (lv_at hl 0 rfl) ?_
                                        refine g_iald (t0 := 1) (k := q) hx hb hK hP mB rfl (by omega) (by omega) d_M_needed_222 ?_
                                        refine lv_aload_n hx hb d_M_needed_223 rfl (lv_at hl 2 rfl) ?_
                                        refine gf_M_36 hF hT hK hP m0 rfl d_M_needed_224 ?_
                                        refine lv_iload_n hx hb d_M_needed_227 rfl (lv_at hl 0 rfl) ?_
                                        refine g_lald (t0 := 0) (k := q) hx hb hK hP mC rfl (by omega) (by omega) d_M_needed_228 ?_
                                        refine gw_cv (gc_M_142 (As := [.int (S.2.1 q), .int (S.2.2.1 q), .long (S.2.2.2.1 q)]) (rest := []) hF hT (c_M_addRow m0 mD hN1 hN5 hag2 (hg1 q (by omega)).1 (hg1 q (by omega)).2.1 (fun z => (hg1 q (by omega)).2.2 z.1)) ⟨(Nat.le_of_ble_eq_true rfl), (Nat.le_of_ble_eq_true rfl)⟩ rfl rfl hK hN hP hD m0 rfl hl.1 rfl (Nat.le_of_ble_eq_true rfl) d_M_needed_229 ⟨(Nat.le_of_ble_eq_true rfl), (Nat.le_of_ble_eq_true rfl)⟩) hD hS hA (fun w H locs hw hP hD hS => ?_)
                                        obtain ⟨⟨F23, mD, ag24⟩, hf⟩ := hw
                                        have m0 := hf.at m0 (by omega)
                                        have mR := hf.at mR (by omega)
                                        have mE := hf.at mE (by omega)
                                        have mO := hf.at mO (by omega)
                                        have mM := hf.at mM (by omega)
                                        have mP := hf.at mP (by omega)
                                        have mA := hf.at mA (by omega)
                                        have mB := hf.at mB (by omega)
                                        have mC := hf.at mC (by omega)
                                        have mL := hf.at mL (by omega)
                                        have hfr := hfr.in hf (by omega) (by omega)
                                        refine lv_iinc (v := nI (q + 1)) (lv' := [(3, .int (nI (q + 1))), (2, .int (nI (S.1 - (t + 1)))), (0, .ref (A 0)), (1, .int (nI k))]) hx hb d_M_needed_232 hl (k := 0) rfl (gx_inc _) (by decide) rfl (fun ls hl => ?_)
                                        refine lv_goto (tgt := 193) hx hb d_M_needed_235 (by decide) ?_
                                        exact ih_193 (q + 1) (by omega) _ _ _ _ _ m0 mR mE mD mO mM mP mA mB mC mL (by show lm_ag N _ (ite _ _ _); rw [if_neg c22]; exact ag24) hfr hP hD hS (lv_sub hl [0, 1, 2, 3] rfl)
                                exact lp_193 S.1 0 (by omega) _ _ _ _ _ m0 mR mE mD mO mM mP mA mB mC mL (lm_ag_E hN5) hfr hP hD hS (lv_sub hl [0, 1, 2, 3] rfl)
                              · have c15 : ¬ (100 ≤ 100) := fun z => c15 ((nI_leI (a := 100) (b := 100) (by omega) (by omega)).mpr z)
                                exfalso; omega
                            | succ dd ih_170 =>
                              intro u e_u w H locs ls m0 mR mE mD mO mM mP mA mB mC mL hfr hP hD hS hl
                              refine lv_iload_n hx hb d_M_needed_170 rfl (lv_at hl 0 rfl) ?_
                              refine lv_bipush (v := nI 100) hx hb d_M_needed_171 (by decide) ?_
                              refine lv_icmp_ge (tgt := 191) hx hb d_M_needed_173 (by decide) (fun c25 => ?_) (fun c25 => ?_)
                              · have c25 := (nI_leI (a := 100) (b := u) (by omega) (by omega)).mp c25
                                exfalso; omega
                              · have c25 : ¬ (100 ≤ u) := fun z => c25 ((nI_leI (a := 100) (b := u) (by omega) (by omega)).mpr z)
                                refine lv_aload_n hx hb d_M_needed_176 rfl (lv_at hl 2 rfl) ?_
                                refine gf_M_17 hF hT hK hP m0 rfl d_M_needed_177 ?_
                                refine lv_iload_n hx hb d_M_needed_180 rfl (lv_at hl 0 rfl) ?_
                                refine lv_ldc2 (v := lr_E) hx hb hown (hts _ (hT _ wm_3_124)) d_M_needed_181 ?_
                                refine g_last (t0 := 0) (k := u) hx hb hK hP hD hS mD rfl (by omega) (by omega) d_M_needed_184 (fun w H locs mD hf hP hD hS => ?_)
                                have m0 := hf.at m0 (by omega)
                                have mR := hf.at mR (by omega)
                                have mE := hf.at mE (by omega)
                                have mO := hf.at mO (by omega)
                                have mM := hf.at mM (by omega)
                                have mP := hf.at mP (by omega)
                                have mA := hf.at mA (by omega)
                                have mB := hf.at mB (by omega)
                                have mC := hf.at mC (by omega)
                                have mL := hf.at mL (by omega)
                                have hfr := hfr.in hf (by omega) (by omega)
                                refine lv_iinc (v := nI (u + 1)) (lv' := [(3, .int (nI (u + 1))), (2, .int (nI (S.1 - (t + 1)))), (0, .ref (A 0)), (1, .int (nI k))]) hx hb d_M_needed_185 hl (k := 0) rfl (gx_inc _) (by decide) rfl (fun ls hl => ?_)
                                refine lv_goto (tgt := 170) hx hb d_M_needed_188 (by decide) ?_
                                exact ih_170 (u + 1) (by omega) _ _ _ _ m0 mR mE mD mO mM mP mA mB mC mL hfr hP hD hS (lv_sub hl [0, 1, 2, 3] rfl)
                          exact lp_170 100 0 (by omega) _ _ _ _ m0 mR mE mD mO mM mP mA mB mC mL hfr hP hD hS (lv_sub hl [0, 1, 2, 3] rfl)
                    exact lp_157 S.1 0 (by omega) _ _ _ _ _ _ m0 mR mE mD mO mM mP mA mB mC mL rfl hfr hP hD hS (lv_sub hl [0, 1, 2] rfl)
                  · have c9 : ¬ (2 * N ≤ (2 * N)) := fun z => c9 ((nI_leI (a := (2 * N)) (b := (2 * N)) (by omega) (by omega)).mpr z)
                    exfalso; omega
                | succ dd ih_98 =>
                  intro i e_i w H locs ls S m0 mR mE mD mO mM mP mA mB mC mL hS1 hm1 hg1 hfr hP hD hS hl
                  have hnx := lr_nx_le (i := i) (N := N) (by omega)
                  have hrs := lr_rem_s (N := N) (i := i) (by omega)
                  refine lv_iload_n hx hb d_M_needed_98 rfl (lv_at hl 0 rfl) ?_
                  refine lv_iconst (v := nI 2) hx hb d_M_needed_99 (by decide) ?_
                  refine lv_aload_n hx hb d_M_needed_100 rfl (lv_at hl 1 rfl) ?_
                  refine gf_M_42 hF hT hK hP m0 rfl d_M_needed_101 ?_
                  refine lv_imul hx hb d_M_needed_104 ?_
                  refine gx_i (y := nI (2 * N)) (pk_mul _ _) ?_
                  refine lv_icmp_ge (tgt := 150) hx hb d_M_needed_105 (by decide) (fun c26 => ?_) (fun c26 => ?_)
                  · have c26 := (nI_leI (a := (2 * N)) (b := i) (by omega) (by omega)).mp c26
                    exfalso; omega
                  · have c26 : ¬ (2 * N ≤ i) := fun z => c26 ((nI_leI (a := (2 * N)) (b := i) (by omega) (by omega)).mpr z)
                    refine lv_iload_n hx hb d_M_needed_108 rfl (lv_at hl 0 rfl) ?_
                    refine lv_iconst (v := nI 2) hx hb d_M_needed_109 (by decide) ?_
                    refine lv_idiv hx hb d_M_needed_110 (by decide) ?_
                    refine gx_i (y := nI (i / 2)) (pk_div (by omega) (by omega) (by omega)) ?_
                    refine lv_iconst (v := nI 2) hx hb d_M_needed_111 (by decide) ?_
                    refine lv_imul hx hb d_M_needed_112 ?_
                    refine gx_i (y := nI ((i / 2) * 2)) (pk_mul _ _) ?_
                    refine lv_iconst (v := nI 2) hx hb d_M_needed_113 (by decide) ?_
                    refine lv_iadd hx hb d_M_needed_114 ?_
                    refine gx_i (y := nI (lr_nx i)) (by rw [nI_add]; congr 1; unfold lr_nx; omega) ?_
                    refine lv_istore_n (lv' := [(3, .int (nI (lr_nx i))), (2, .int (nI i)), (0, .ref (A 0)), (1, .int (nI k))]) hx hb d_M_needed_115 rfl hl (by decide) rfl (fun ls hl => ?_)
                    have lp_116 : ∀ (dd t : Nat), t + dd = (2 * N - lr_nx i) → ∀ (w : va_W) (H : Heap) (locs : List Loc) (ls : Array Slot) (V : lm_N), w[b]? = some (A 0, .inr (3, [.int (nI 0), .int (nI N), .ref (A 1), .ref (A 2), .ref (A 3), .ref (A 4), .ref (A 5), .ref (A 6), .int (nI V.1), .ref (A 7), .ref (A 8), .ref (A 9), .ref (A 10)])) → w[b + 1]? = some (A 1, .inl (cJ, 800, .inr (.inl R))) → w[b + 2]? = some (A 2, .inl (cZ, 8, .inl Em)) → w[b + 3]? = some (A 3, .inl (cJ, 100, .inr (.inl F6))) → w[b + 4]? = some (A 4, .inl (cJ, 100, .inr (.inl O))) → w[b + 5]? = some (A 5, .inl (cJ, 100, .inr (.inl Md))) → w[b + 6]? = some (A 6, .inl (cJ, 6, .inr (.inl Pt))) → w[b + 7]? = some (A 7, .inl (cI, 60, .inl V.2.1)) → w[b + 8]? = some (A 8, .inl (cI, 60, .inl V.2.2.1)) → w[b + 9]? = some (A 9, .inl (cJ, 60, .inr (.inl V.2.2.2.1))) → w[b + 10]? = some (A 10, .inl (cZ, 60, .inl V.2.2.2.2)) → (V = lm_t2 (CF k) i t S) → (V.1 + (2 * N - lr_nx i - t) + lr_rem N (i + 1) ≤ 2 * (N * N)) → (lm_gd N V) → gF b (b + 11) ws w → va_P D classes w H → va_D (va_A ws sz) w → va_S (va_A ws sz) s.heap H locs → lv_has ls 4 [(3, .int (nI (lr_nx i + t))), (2, .int (nI i)), (0, .ref (A 0)), (1, .int (nI k))] → W p l e ({ frames := 4, cells := 0, slots := 0, locals := 71 } : Room) s m ([.ref (A 0), .int x] : List Value).toArray below meth c H locs 0 0 (MQ below (va_Qi (fun r w => (∃ th' n' a' b' c', ((¬ okS x ∧ th' = nI 1 ∧ n' = nm ∧ a' = nA ∧ b' = nB ∧ c' = nC) ∨ (∃ k, k < 8 ∧ x = nI k ∧ th' = nI 0 ∧ r = nI n' ∧ n' ≤ 60 ∧ ((¬ Em k = 0 ∧ n' = 1 ∧ a' = upd nA 0 (nI 0) ∧ b' = upd nB 0 (nI 0) ∧ c' = vp_updL nC 0 (-1)) ∨ (Em k = 0 ∧ ∃ Lf, (n', a', b', c') = lm_ndF (lm_lst (CF k) N nA nB nC Lf) YS)))) ∧ mS cJ cI cZ w b A N th' n' R Em Pt a' b' c') ∧ gF b (b + 11) ws w) (gw_B D classes (gT cJ cI cZ cS) ws sz) (va_A ws sz)) ([.ref (A 0), .int x] : List Value).toArray s 0 0 (va_A ws sz)) (F0 m 116 ls []) := by
                      intro dd
                      induction dd with
                      | zero =>
                        intro t e_t w H locs ls V m0 mR mE mD mO mM mP mA mB mC mL hS2 hm2 hg2 hfr hP hD hS hl
                        have e0_t : (2 * N - lr_nx i) = t := by omega
                        subst e0_t
                        refine lv_iload_n hx hb d_M_needed_116 rfl (lv_at hl 0 rfl) ?_
                        refine lv_iconst (v := nI 2) hx hb d_M_needed_117 (by decide) ?_
                        refine lv_aload_n hx hb d_M_needed_118 rfl (lv_at hl 2 rfl) ?_
                        refine gf_M_42 hF hT hK hP m0 rfl d_M_needed_119 ?_
                        refine lv_imul hx hb d_M_needed_122 ?_
                        refine gx_i (y := nI (2 * N)) (pk_mul _ _) ?_
                        refine lv_icmp_ge (tgt := 144) hx hb d_M_needed_123 (by decide) (fun c27 => ?_) (fun c27 => ?_)
                        · have c27 := (nI_leI (a := (2 * N)) (b := (lr_nx i + (2 * N - lr_nx i))) (by omega) (by omega)).mp c27
                          refine lv_iinc (v := nI (i + 1)) (lv' := [(2, .int (nI (i + 1))), (3, .int (nI (lr_nx i + (2 * N - lr_nx i)))), (0, .ref (A 0)), (1, .int (nI k))]) hx hb d_M_needed_144 hl (k := 1) rfl (gx_inc _) (by decide) rfl (fun ls hl => ?_)
                          refine lv_goto (tgt := 98) hx hb d_M_needed_147 (by decide) ?_
                          exact ih_98 (i + 1) (by omega) _ _ _ _ V m0 mR mE mD mO mM mP mA mB mC mL (by rw [hS2, hS1]; rfl) (by omega) hg2 hfr hP hD hS (lv_sub hl [0, 2, 3] rfl)
                        · have c27 : ¬ (2 * N ≤ lr_nx i + (2 * N - lr_nx i)) := fun z => c27 ((nI_leI (a := (2 * N)) (b := (lr_nx i + (2 * N - lr_nx i))) (by omega) (by omega)).mpr z)
                          exfalso; omega
                      | succ dd ih_116 =>
                        intro t e_t w H locs ls V m0 mR mE mD mO mM mP mA mB mC mL hS2 hm2 hg2 hfr hP hD hS hl
                        refine lv_iload_n hx hb d_M_needed_116 rfl (lv_at hl 0 rfl) ?_
                        refine lv_iconst (v := nI 2) hx hb d_M_needed_117 (by decide) ?_
                        refine lv_aload_n hx hb d_M_needed_118 rfl (lv_at hl 2 rfl) ?_
                        refine gf_M_42 hF hT hK hP m0 rfl d_M_needed_119 ?_
                        refine lv_imul hx hb d_M_needed_122 ?_
                        refine gx_i (y := nI (2 * N)) (pk_mul _ _) ?_
                        refine lv_icmp_ge (tgt := 144) hx hb d_M_needed_123 (by decide) (fun c28 => ?_) (fun c28 => ?_)
                        · have c28 := (nI_leI (a := (2 * N)) (b := (lr_nx i + t)) (by omega) (by omega)).mp c28
                          exfalso; omega
                        · have c28 : ¬ (2 * N ≤ lr_nx i + t) := fun z => c28 ((nI_leI (a := (2 * N)) (b := (lr_nx i + t)) (by omega) (by omega)).mpr z)
                          refine lv_aload_n hx hb d_M_needed_126 rfl (lv_at hl 2 rfl) ?_
                          refine lv_iload_n hx hb d_M_needed_127 rfl (lv_at hl 1 rfl) ?_
                          refine gw_ci0 (gc_M_155 (As := [.int (nI i)]) (rest := [.ref (A 0)]) hF hT (c_M_termOf (q := i) (by omega)) ⟨(Nat.le_of_ble_eq_true rfl), (Nat.le_of_ble_eq_true rfl)⟩ rfl rfl hK hN hP hD rfl hl.1 rfl (Nat.le_of_ble_eq_true rfl) d_M_needed_128 ⟨(Nat.le_of_ble_eq_true rfl), (Nat.le_of_ble_eq_true rfl)⟩) hD hS hA (fun r29 H locs e_r29 hP hD hS => ?_)
                          subst e_r29
                          refine lv_iload_n hx hb d_M_needed_131 rfl (lv_at hl 0 rfl) ?_
                          refine gw_ci0 (gc_M_155 (As := [.int (nI (lr_nx i + t))]) (rest := [.int (lr_term i), .ref (A 0)]) hF hT (c_M_termOf (q := lr_nx i + t) (by omega)) ⟨(Nat.le_of_ble_eq_true rfl), (Nat.le_of_ble_eq_true rfl)⟩ rfl rfl hK hN hP hD rfl hl.1 rfl (Nat.le_of_ble_eq_true rfl) d_M_needed_132 ⟨(Nat.le_of_ble_eq_true rfl), (Nat.le_of_ble_eq_true rfl)⟩) hD hS hA (fun r30 H locs e_r30 hP hD hS => ?_)
                          subst e_r30
                          refine gw_cv (gc_M_158 (As := [.int (lr_term i), .int (lr_term (lr_nx i + t))]) (rest := []) hF hT (c_M_listRow m0 mR mE mD mO mM mP mA mB mC mL hN1 hN5 hag33 (lr_term_tm (n := 2 * N) (by omega) (by omega)) (lr_term_tm (n := 2 * N) (by omega) (by omega)) (by omega)) ⟨(Nat.le_of_ble_eq_true rfl), (Nat.le_of_ble_eq_true rfl)⟩ rfl rfl hK hN hP hD m0 rfl hl.1 rfl (Nat.le_of_ble_eq_true rfl) d_M_needed_135 ⟨(Nat.le_of_ble_eq_true rfl), (Nat.le_of_ble_eq_true rfl)⟩) hD hS hA (fun w H locs hw hP hD hS => ?_)
                          obtain ⟨⟨n31, a31, b31, c31, l31, hls, m0, mR, mE, mD, mO, mM, mP, mA, mB, mC, mL⟩, hf⟩ := hw
                          have hfr := hfr.in hf (by omega) (by omega)
                          refine lv_iinc (v := nI (lr_nx i + t + 1)) (lv' := [(3, .int (nI (lr_nx i + t + 1))), (2, .int (nI i)), (0, .ref (A 0)), (1, .int (nI k))]) hx hb d_M_needed_138 hl (k := 0) rfl (gx_inc _) (by decide) rfl (fun ls hl => ?_)
                          refine lv_goto (tgt := 116) hx hb d_M_needed_141 (by decide) ?_
                          exact ih_116 (t + 1) (by omega) _ _ _ _ (n31, a31, b31, c31, l31) m0 mR mE mD mO mM mP mA mB mC mL (by rw [lm_ls1_eq hls, hS2]; rfl) (by have h9 := lm_ls_le hls; omega) (lm_gd_s hls hg2 (lr_term_tm (n := 2 * N) (by omega) (by omega)) (lr_term_tm (n := 2 * N) (by omega) (by omega)) (lm_term_nz (by omega))) hfr hP hD hS (lv_sub hl [0, 1, 2, 3] rfl)
                    exact lp_116 (2 * N - lr_nx i) 0 (by omega) _ _ _ _ S m0 mR mE mD mO mM mP mA mB mC mL rfl (by omega) hg1 hfr hP hD hS (lv_sub hl [0, 1, 2, 3] rfl)
              exact lp_98 (2 * N) 0 (by omega) _ _ _ _ S m0 mR mE mD mO mM mP mA mB mC mL hS1 (by have h9 := lr_rem_0 hN5; omega) hg1 hfr hP hD hS (lv_sub hl [0, 1, 2] rfl)
            · have c8 : ¬ (2 * N ≤ (2 * N)) := fun z => c8 ((nI_leI (a := (2 * N)) (b := (2 * N)) (by omega) (by omega)).mpr z)
              exfalso; omega
          | succ dd ih_71 =>
            intro i e_i w H locs ls S m0 mR mE mD mO mM mP mA mB mC mL hS1 hm1 hg1 hfr hP hD hS hl
            refine lv_iload_n hx hb d_M_needed_71 rfl (lv_at hl 0 rfl) ?_
            refine lv_iconst (v := nI 2) hx hb d_M_needed_72 (by decide) ?_
            refine lv_aload_n hx hb d_M_needed_73 rfl (lv_at hl 1 rfl) ?_
            refine gf_M_42 hF hT hK hP m0 rfl d_M_needed_74 ?_
            refine lv_imul hx hb d_M_needed_77 ?_
            refine gx_i (y := nI (2 * N)) (pk_mul _ _) ?_
            refine lv_icmp_ge (tgt := 96) hx hb d_M_needed_78 (by decide) (fun c32 => ?_) (fun c32 => ?_)
            · have c32 := (nI_leI (a := (2 * N)) (b := i) (by omega) (by omega)).mp c32
              exfalso; omega
            · have c32 : ¬ (2 * N ≤ i) := fun z => c32 ((nI_leI (a := (2 * N)) (b := i) (by omega) (by omega)).mpr z)
              refine lv_aload_n hx hb d_M_needed_81 rfl (lv_at hl 1 rfl) ?_
              refine lv_iload_n hx hb d_M_needed_82 rfl (lv_at hl 0 rfl) ?_
              refine gw_ci0 (gc_M_155 (As := [.int (nI i)]) (rest := [.ref (A 0)]) hF hT (c_M_termOf (q := i) (by omega)) ⟨(Nat.le_of_ble_eq_true rfl), (Nat.le_of_ble_eq_true rfl)⟩ rfl rfl hK hN hP hD rfl hl.1 rfl (Nat.le_of_ble_eq_true rfl) d_M_needed_83 ⟨(Nat.le_of_ble_eq_true rfl), (Nat.le_of_ble_eq_true rfl)⟩) hD hS hA (fun r33 H locs e_r33 hP hD hS => ?_)
              subst e_r33
              refine lv_iconst (v := nI 0) hx hb d_M_needed_86 (by decide) ?_
              refine gw_cv (gc_M_158 (As := [.int (lr_term i), .int (nI 0)]) (rest := []) hF hT (c_M_listRow m0 mR mE mD mO mM mP mA mB mC mL hN1 hN5 hag33 (lr_term_tm (n := 2 * N) (by omega) (by omega)) lr_tm0 (by omega)) ⟨(Nat.le_of_ble_eq_true rfl), (Nat.le_of_ble_eq_true rfl)⟩ rfl rfl hK hN hP hD m0 rfl hl.1 rfl (Nat.le_of_ble_eq_true rfl) d_M_needed_87 ⟨(Nat.le_of_ble_eq_true rfl), (Nat.le_of_ble_eq_true rfl)⟩) hD hS hA (fun w H locs hw hP hD hS => ?_)
              obtain ⟨⟨n34, a34, b34, c34, l34, hls, m0, mR, mE, mD, mO, mM, mP, mA, mB, mC, mL⟩, hf⟩ := hw
              have hfr := hfr.in hf (by omega) (by omega)
              refine lv_iinc (v := nI (i + 1)) (lv' := [(2, .int (nI (i + 1))), (0, .ref (A 0)), (1, .int (nI k))]) hx hb d_M_needed_90 hl (k := 0) rfl (gx_inc _) (by decide) rfl (fun ls hl => ?_)
              refine lv_goto (tgt := 71) hx hb d_M_needed_93 (by decide) ?_
              exact ih_71 (i + 1) (by omega) _ _ _ _ (n34, a34, b34, c34, l34) m0 mR mE mD mO mM mP mA mB mC mL (by rw [lm_ls1_eq hls, hS1]; rfl) (Nat.le_trans (lm_ls_le hls) (by omega)) (lm_gd_s hls hg1 (lr_term_tm (n := 2 * N) (by omega) (by omega)) lr_tm0 (lm_term_nz (by omega))) hfr hP hD hS (lv_sub hl [0, 1, 2] rfl)
        exact lp_71 (2 * N) 0 (by omega) _ _ _ _ (0, nA, nB, nC, Lf) m0 mR mE mD mO mM mP mA mB mC mL rfl (Nat.le_refl _) lm_gd_0 hfr hP hD hS (lv_sub hl [0, 1, 2] rfl)
      · have hE33 := h_r5.n c7
        refine lv_aload_n hx hb d_M_needed_39 rfl (lv_at hl 0 rfl) ?_
        refine gf_M_29 hF hT hK hP m0 rfl d_M_needed_40 ?_
        refine lv_iconst (v := nI 0) hx hb d_M_needed_43 (by decide) ?_
        refine lv_iconst (v := nI 0) hx hb d_M_needed_44 (by decide) ?_
        refine g_iast (t0 := 1) (k := 0) hx hb hK hP hD hS mA rfl (by omega) (by omega) d_M_needed_45 (fun w H locs mA hf hP hD hS => ?_)
        have m0 := hf.at m0 (by omega)
        have mR := hf.at mR (by omega)
        have mE := hf.at mE (by omega)
        have mD := hf.at mD (by omega)
        have mO := hf.at mO (by omega)
        have mM := hf.at mM (by omega)
        have mP := hf.at mP (by omega)
        have mB := hf.at mB (by omega)
        have mC := hf.at mC (by omega)
        have mL := hf.at mL (by omega)
        have hfr := hfr.in hf (by omega) (by omega)
        refine lv_aload_n hx hb d_M_needed_46 rfl (lv_at hl 0 rfl) ?_
        refine gf_M_33 hF hT hK hP m0 rfl d_M_needed_47 ?_
        refine lv_iconst (v := nI 0) hx hb d_M_needed_50 (by decide) ?_
        refine lv_iconst (v := nI 0) hx hb d_M_needed_51 (by decide) ?_
        refine g_iast (t0 := 1) (k := 0) hx hb hK hP hD hS mB rfl (by omega) (by omega) d_M_needed_52 (fun w H locs mB hf hP hD hS => ?_)
        have m0 := hf.at m0 (by omega)
        have mR := hf.at mR (by omega)
        have mE := hf.at mE (by omega)
        have mD := hf.at mD (by omega)
        have mO := hf.at mO (by omega)
        have mM := hf.at mM (by omega)
        have mP := hf.at mP (by omega)
        have mA := hf.at mA (by omega)
        have mC := hf.at mC (by omega)
        have mL := hf.at mL (by omega)
        have hfr := hfr.in hf (by omega) (by omega)
        refine lv_aload_n hx hb d_M_needed_53 rfl (lv_at hl 0 rfl) ?_
        refine gf_M_36 hF hT hK hP m0 rfl d_M_needed_54 ?_
        refine lv_iconst (v := nI 0) hx hb d_M_needed_57 (by decide) ?_
        refine lv_ldc2 (v := (-1 : Int64)) hx hb hown (hts _ (hT _ wm_4_96)) d_M_needed_58 ?_
        refine g_last (t0 := 0) (k := 0) hx hb hK hP hD hS mC rfl (by omega) (by omega) d_M_needed_61 (fun w H locs mC hf hP hD hS => ?_)
        have m0 := hf.at m0 (by omega)
        have mR := hf.at mR (by omega)
        have mE := hf.at mE (by omega)
        have mD := hf.at mD (by omega)
        have mO := hf.at mO (by omega)
        have mM := hf.at mM (by omega)
        have mP := hf.at mP (by omega)
        have mA := hf.at mA (by omega)
        have mB := hf.at mB (by omega)
        have mL := hf.at mL (by omega)
        have hfr := hfr.in hf (by omega) (by omega)
        refine lv_aload_n hx hb d_M_needed_62 rfl (lv_at hl 0 rfl) ?_
        refine lv_iconst (v := nI 1) hx hb d_M_needed_63 (by decide) ?_
        refine gp_M_150 hF hT hK hP hD hS (fs1 := [.int (nI 0), .int (nI N), .ref (A 1), .ref (A 2), .ref (A 3), .ref (A 4), .ref (A 5), .ref (A 6), .int (nI 1), .ref (A 7), .ref (A 8), .ref (A 9), .ref (A 10)]) m0 rfl rfl (Nat.le_of_ble_eq_true rfl) rfl d_M_needed_64 (fun w H locs m0 hf hP hD hS => ?_)
        have mR := hf.at mR (by omega)
        have mE := hf.at mE (by omega)
        have mD := hf.at mD (by omega)
        have mO := hf.at mO (by omega)
        have mM := hf.at mM (by omega)
        have mP := hf.at mP (by omega)
        have mA := hf.at mA (by omega)
        have mB := hf.at mB (by omega)
        have mC := hf.at mC (by omega)
        have mL := hf.at mL (by omega)
        have hfr := hfr.in hf (by omega) (by omega)
        refine lv_iconst (v := nI 1) hx hb d_M_needed_67 (by decide) ?_
        exact gw_iret hx hb hr hlocks hK hP hD hS (Nat.le_of_ble_eq_true rfl) (Nat.le_of_ble_eq_true rfl) d_M_needed_68 ⟨⟨_, _, _, _, _, Or.inr ⟨k, hk, ek, rfl, rfl, by omega, Or.inl ⟨hE33, rfl, rfl, rfl, rfl⟩⟩, ⟨_, _, _, _, m0, mR, mE, mD, mO, mM, mP, mA, mB, mC, mL⟩⟩, hfr⟩
    · have c4 : ¬ (0 ≤ 0) := fun z => c4 ((nI_leI (a := 0) (b := 0) (by omega) (by omega)).mpr z)
      exfalso; omega
