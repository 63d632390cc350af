/-! has, array, put, held together -/
def lh_n (nu : Nat → Int64) (i : Nat) : Int := if i % 2 = 0 then (nu (i / 2)).toInt else -(nu (i / 2)).toInt
theorem lh_op {nu : Nat → Int64} {i : Nat} : lh_n nu (lr_op i) = -lh_n nu i := by
  unfold lh_n lr_op
  by_cases w : i % 2 = 0
  · rw [if_pos w, if_neg (by omega), if_pos w, show (i + 1) / 2 = i / 2 by omega]
  · rw [if_neg w, if_pos (by omega), if_neg w, show (i - 1) / 2 = i / 2 by omega]; omega
theorem lh_cl {N : Nat} {nu : Nat → Int64} : lr_Cl N (fun i j => some (lh_n nu i + lh_n nu j)) := by
  refine ⟨fun i _ j _ => ?_, fun i _ => ?_, fun p _ i _ j _ => ?_, fun i _ c hc => ?_, fun i _ j _ => ?_⟩
  · show some _ = some _
    rw [Int.add_comm]
  · show some (lh_n nu i + lh_n nu (lr_op i)) = some 0
    rw [lh_op, Int.add_right_neg]
  · show lh_n nu i + lh_n nu j ≤ (lh_n nu i + lh_n nu p) + (lh_n nu (lr_op p) + lh_n nu j)
    rw [lh_op]; omega
  · injection hc with hc; omega
  · show 2 * (lh_n nu i + lh_n nu j) ≤ (lh_n nu i + lh_n nu i) + (lh_n nu j + lh_n nu j)
    omega
theorem lh_num {N : Nat} {nu Pt : Nat → Int64} (hP : iv_P N nu Pt) {i : Nat} (hi : i < 2 * N) : (lr_num nu i).toInt = lh_n nu i ∧ lm_val Pt i = lr_num nu i ∧ -5000000000000000 ≤ lh_n nu i ∧ lh_n nu i ≤ 5000000000000000 := by
  obtain ⟨a, b, c⟩ := hP (i / 2) (by omega)
  unfold lr_num lh_n lm_val
  rw [a]
  by_cases w : i % 2 = 0
  · rw [if_pos w, if_pos w]; exact ⟨rfl, rfl, by omega, by omega⟩
  · rw [if_neg w, if_neg w]; exact ⟨lz_neg (by omega), rfl, by omega, by omega⟩
theorem iv_has {N k : Nat} {K B : Nat → Nat → Int64} {E Em : Nat → Int32} {R nu Pt : Nat → Int64} (hN : N ≤ 5) (h : iv_A N K B E R Em) (hk : k < 8) (he : E k = 0) (hP : iv_P N nu Pt) : (lm_hsO Pt R k (2 * N) (2 * N) (nI 1) = nI 1 ∧ ∀ i, i < 2 * N → ∀ t, t < 2 * N - i → lr_num nu i + lr_num nu (i + t) ≤ B k (i * (2 * N) + (i + t))) ∨ (lm_hsO Pt R k (2 * N) (2 * N) (nI 1) = nI 0 ∧ ¬ ∀ i, i < 2 * N → ∀ t, t < 2 * N - i → lr_num nu i + lr_num nu (i + t) ≤ B k (i * (2 * N) + (i + t))) := by
  obtain ⟨h2, r2, _⟩ := h k hk
  obtain ⟨i2, n2⟩ := h2.st he
  have hb := lz_nf_B n2 lz_T_gd
  have hC := lh_cl (N := N) (nu := nu)
  have nv : ∀ i, i < 2 * N → ∀ j, j < 2 * N → (lr_num nu i + lr_num nu j).toInt = lh_n nu i + lh_n nu j ∧ lz_v (lr_num nu i + lr_num nu j) = some (lh_n nu i + lh_n nu j) ∧ lz_b 10000000000000000 (some (lh_n nu i + lh_n nu j)) := fun i hi j hj => by
    obtain ⟨a1, _, a2, a3⟩ := lh_num hP hi
    obtain ⟨b1, _, b2, b3⟩ := lh_num hP hj
    have e : (lr_num nu i + lr_num nu j).toInt = lh_n nu i + lh_n nu j := by rw [lz_add (by rw [a1, b1]; omega) (by rw [a1, b1]; omega), a1, b1]
    exact ⟨e, by rw [lz_v_s (fun q => by rw [q, lz_ET] at e; omega), e], lz_b_s.mpr (by omega)⟩
  have cc : (∀ i, i < 2 * N → ∀ t, t < 2 * N - i → lr_num nu i + lr_num nu (i + t) ≤ B k (i * (2 * N) + (i + t))) ↔ lr_LE (2 * N) (fun i j => some (lh_n nu i + lh_n nu j)) (lz_T (2 * N) (B k)) := by
    have key : ∀ i, i < 2 * N → ∀ j, j < 2 * N → (lr_num nu i + lr_num nu j ≤ B k (i * (2 * N) + j) ↔ lr_le (some (lh_n nu i + lh_n nu j)) (lz_T (2 * N) (B k) i j)) := fun i hi j hj => by
      obtain ⟨_, a, b⟩ := nv i hi j hj
      rw [lz_T_in hi hj, ← a]
      exact lz_le (by rw [a]; exact b) (lz_nf_v n2 hi hj) (by omega) (by omega)
    constructor
    · intro w i hi j hj
      rcases Nat.le_total i j with q | q
      · have := w i hi (j - i) (by omega)
        rw [show i + (j - i) = j by omega] at this
        exact (key i hi j hj).mp this
      · have := w j hj (i - j) (by omega)
        rw [show j + (i - j) = i by omega] at this
        have := (key j hj i hi).mp this
        rw [i2.1.1 i hi j hj]
        show lr_le (some (lh_n nu i + lh_n nu j)) _
        rw [Int.add_comm]; exact this
    · intro w i hi t ht
      exact (key i hi _ (by omega)).mpr (w i hi _ (by omega))
  have rc : (∀ i, i < 2 * N → ∀ j, j < 2 * N → ¬ R (100 * k + 10 * i + j) < lm_hvv Pt i j) ↔ lr_LE (2 * N) (fun i j => some (lh_n nu i + lh_n nu j)) (lz_T (2 * N) (B k)) := by
    have key : ∀ i, i < 2 * N → ∀ j, j < 2 * N → (¬ R (100 * k + 10 * i + j) < lm_hvv Pt i j ↔ lr_le (some (lh_n nu i + lh_n nu j)) (lz_T (2 * N) (K k) i j)) := fun i hi j hj => by
      obtain ⟨a1, a0, a2, a3⟩ := lh_num hP hi
      obtain ⟨b1, b0, b2, b3⟩ := lh_num hP hj
      have hr := r2 i (by omega) j (by omega)
      have bz := h2.1.2.1 i j
      have be := h2.1.2.2.1 i hi
      rw [Int64.not_lt, show 100 * k + 10 * i + j = 100 * k + (10 * i + j) by omega]
      unfold lm_hvv
      unfold lz_hv at hr
      by_cases w : i = j
      · subst w
        rw [if_pos rfl] at hr ⊢
        have ev : lz_v (lm_val Pt i) = some (lh_n nu i) := by rw [a0, lz_v_s (fun q => by rw [q, lz_ET] at a1; omega), a1]
        rw [lz_le (c := lm_val Pt i) (d := R (100 * k + (10 * i + i))) (M := 5000000000000000) (M' := 2000000000000000) (by rw [ev]; exact lz_b_s.mpr (by omega)) (by rw [hr]; exact lz_b_hf bz (by omega)) (by omega) (by omega), ev, hr]
        generalize lz_T (2 * N) (K k) i i = z at *
        cases z with
        | none => simp [lr_hf, lr_le]
        | some x => have := be x rfl; simp [lr_hf, lr_le]; omega
      · rw [if_neg w] at hr ⊢
        obtain ⟨_, e1, e2⟩ := nv i hi j hj
        rw [a0, b0, lz_le (c := lr_num nu i + lr_num nu j) (d := R (100 * k + (10 * i + j))) (by rw [e1]; exact e2) (by rw [hr]; exact bz) (by omega) (by omega), e1, hr]
    constructor
    · intro w
      refine i2.2.2 _ hC (fun i hi j hj => ?_)
      unfold lz_O
      by_cases q : i < 2 * N ∧ j = lr_op i
      · rw [if_pos q, q.2]
        show lh_n nu i + lh_n nu (lr_op i) ≤ 0
        rw [lh_op]; omega
      · rw [if_neg q]; exact (key i hi j hj).mp (w i hi j hj)
    · intro w i hi j hj
      refine (key i hi j hj).mpr (lr_le_trans (w i hi j hj) ?_)
      have := i2.2.1 i hi j hj
      unfold lz_O at this
      by_cases q : i < 2 * N ∧ j = lr_op i
      · rw [q.2, h2.1.2.2.2.1 i hi]; exact lr_le_none _
      · rw [if_neg q] at this; exact this
  have := iv_wt2 (P := fun i j => R (100 * k + 10 * i + j) < lm_hvv Pt i j) (n := 2 * N) (m := 2 * N) (z := nI 1) (Or.inr rfl)
  rcases this with ⟨a, _, b⟩ | ⟨a, b⟩
  · left; exact ⟨a, cc.mpr (rc.mp b)⟩
  · right; exact ⟨a, fun w => b ⟨rfl, rc.mpr (cc.mp w)⟩⟩
theorem iv_put {N k : Nat} {nu Pt : Nat → Int64} {v : Int64} (hP : iv_P N nu Pt) (h1 : 1 ≤ k) (hk : k ≤ N) (hv : okG v) : Pt k = nu (k - 1) ∧ iv_P N (vp_updL nu (k - 1) v) (vp_updL Pt k v) := by
  have e := (hP (k - 1) (by omega)).1
  rw [show k - 1 + 1 = k by omega] at e
  refine ⟨e, fun i hi => ?_⟩
  have t := hv.t
  by_cases w : i = k - 1
  · rw [w, vl_eq, show k - 1 + 1 = k by omega, vl_eq]; exact ⟨rfl, by omega, by omega⟩
  · rw [vl_ne w, vl_ne (by omega)]; exact hP i hi
/-- array -/
theorem iv_array {N k k1 k2 : Nat} {K B : Nat → Nat → Int64} {E Em : Nat → Int32} {R : Nat → Int64} {Tr : Nat → Int64} (hN : N ≤ 5) (h : iv_A N K B E R Em) (hk : k < 8) (h1 : 1 ≤ k1) (hk1 : k1 ≤ N) (h2 : 1 ≤ k2) (hk2 : k2 ≤ N) (hne : ¬ k1 = k2) (he : E k = 0) : ∃ o, (∀ q q1 q2, q < 8 → nI k = nI q → 1 ≤ q1 → q1 ≤ N → nI k1 = nI q1 → 1 ≤ q2 → q2 ≤ N → nI k2 = nI q2 → ¬ q1 = q2 → Em q = 0 → lm_Cl N (lm_arX (iv_mat N (B q)) q1 q2) o) ∧ ((lr_okA (lr_arF (B k) Tr (2 * N) (nI k1) (nI k2)) (2 * N) ∧ ∃ Y, o = some Y) ∨ (¬ lr_okA (lr_arF (B k) Tr (2 * N) (nI k1) (nI k2)) (2 * N) ∧ o = none)) := by
  obtain ⟨hs, _, _⟩ := h k hk
  obtain ⟨i2, n2⟩ := hs.st he
  have hb := lz_nf_B n2 lz_T_gd
  have n1 := nI_nz (a := k1) (by omega) (by omega)
  have m1 := mI_nz (a := k1) (by omega) (by omega)
  have m2 := mI_nz (a := k2) (by omega) (by omega)
  have p1 : lr_pl (nI k1) = 2 * (k1 - 1) := lr_pl_nI (by omega) (by omega)
  have q1 : lr_pl (-nI k1) = 2 * (k1 - 1) + 1 := lr_pl_mI (by omega) (by omega)
  have q2 : lr_pl (-nI k2) = 2 * (k2 - 1) + 1 := lr_pl_mI (by omega) (by omega)
  have w1 : 2 * (k1 - 1) < 2 * N := by omega
  have w2 : 2 * (k1 - 1) + 1 < 2 * N := by omega
  have w3 : 2 * (k2 - 1) + 1 < 2 * N := by omega
  have v0 : lz_v (2 * 0) = some 0 := by decide
  have v1 : lz_v (-1) = some (-1) := by decide
  have v00 : lz_v 0 = some 0 := lz_v0
  obtain ⟨Z, hZ⟩ : ∃ Z : lr_M, Z = lq_up (lq_up (lz_T (2 * N) (B k)) (2 * (k1 - 1) + 1) (2 * (k1 - 1) + 1) (lr_mn (lz_T (2 * N) (B k) (2 * (k1 - 1) + 1) (2 * (k1 - 1) + 1)) (some 0))) (2 * (k1 - 1)) (2 * (k2 - 1) + 1) (lr_mn (lz_T (2 * N) (B k) (2 * (k1 - 1)) (2 * (k2 - 1) + 1)) (some (-1))) := ⟨_, rfl⟩
  have eF : lz_T (2 * N) (lr_arF (B k) Tr (2 * N) (nI k1) (nI k2)) = Z := by
    unfold lr_arF
    rw [p1, q1, q2]
    have a1 := lz_T_lower (n := 2 * N) (f := lr_copy (B k) Tr (2 * N * (2 * N))) (c := 0) (M := 2000000000000000) (M' := 1) w2 w2 (by rw [lz_T_copy]; exact hb _ _) (by rw [v00]; exact lz_b_s.mpr (by omega)) (by omega) (by omega)
    rw [lz_T_copy, v00] at a1
    have a2 := lz_T_lower (n := 2 * N) (f := lr_lower (lr_copy (B k) Tr (2 * N * (2 * N))) (2 * N) (2 * (k1 - 1) + 1) (2 * (k1 - 1) + 1) 0) (c := -1) (M := 2000000000000000) (M' := 1) w1 w3 (by rw [a1, lq_up_ne (by omega)]; exact hb _ _) (by rw [v1]; exact lz_b_s.mpr (by omega)) (by omega) (by omega)
    rw [a1, lq_up_ne (i := 2 * (k1 - 1) + 1) (k := 2 * (k1 - 1) + 1) (x := 2 * (k1 - 1)) (y := 2 * (k2 - 1) + 1) (by omega), v1] at a2
    rw [hZ]; exact a2
  have eX0 : lz_X (2 * N) (iv_mat N (B k)) = lz_T (2 * N) (B k) := rfl
  have eX : lz_X (2 * N) (lm_arX (iv_mat N (B k)) k1 k2) = Z := by
    have x1 : lm_x1 (-nI k1) (nI 0) = -nI k1 := by unfold lm_x1; rw [if_neg m1]
    have x2 : lm_x1 (nI 0) (-nI k1) = -nI k1 := by unfold lm_x1; rw [if_pos (by decide)]
    have x3 : lm_x1 (nI k1) (-nI k2) = nI k1 := by unfold lm_x1; rw [if_neg n1]
    have x4 : lm_x1 (-nI k2) (nI k1) = -nI k2 := by unfold lm_x1; rw [if_neg m2]
    have a1 : lm_av (-nI k1) (nI 0) 0 = 2 * 0 := by unfold lm_av; rw [if_neg m1, if_pos (by decide)]
    have a2 : lm_av (nI k1) (-nI k2) (-1) = -1 := by unfold lm_av; rw [if_neg n1, if_neg m2]
    unfold lm_arX lm_addM
    rw [x1, x2, x3, x4, a1, a2, p1, q1, q2]
    have b1 := lz_adM (m := 2 * N) (X := iv_mat N (B k)) (v := 2 * 0) (M := 2000000000000000) (M' := 1) w2 w2 rfl (by rw [eX0]; exact hb _ _) (by rw [v0]; exact lz_b_s.mpr (by omega)) (by omega) (by omega)
    rw [v0, eX0] at b1
    have b2 := lz_adM (m := 2 * N) (X := lm_adM (iv_mat N (B k)) (2 * (k1 - 1) + 1) (2 * (k1 - 1) + 1) (2 * 0)) (v := -1) (M := 2000000000000000) (M' := 1) w1 w3 (by rw [b1, lq_up_ne (by omega), lq_up_ne (by omega)]; exact i2.1.1 _ w1 _ w3) (by rw [b1, lq_up_ne (by omega)]; exact hb _ _) (by rw [v1]; exact lz_b_s.mpr (by omega)) (by omega) (by omega)
    rw [b1, lq_up_ne (i := 2 * (k1 - 1) + 1) (k := 2 * (k1 - 1) + 1) (x := 2 * (k1 - 1)) (y := 2 * (k2 - 1) + 1) (by omega), v1] at b2
    rw [hZ]; exact b2
  have hsy : lr_Sym (2 * N) Z := by rw [hZ]; exact lq_up_sym (lq_up_sym i2.1.1)
  have hbz : lz_B 2000000000000000 Z := fun i j => by
    rw [hZ]; unfold lq_up
    split
    · exact lz_b_mn (hb _ _) (lz_b_s.mpr (by omega))
    · split
      · exact lz_b_mn (hb _ _) (lz_b_s.mpr (by omega))
      · exact hb i j
  have hop : ∀ i, i < 2 * N → Z i (lr_op i) = some 0 := fun i hi => by
    have oe : lr_op i / 2 = i / 2 ∧ lr_op i ≠ i := ⟨by unfold lr_op; split <;> omega, lr_op_ne i⟩
    rw [hZ, lq_up_ne (by omega), lq_up_ne (by omega)]
    exact i2.1.2.1 i hi
  have hb10 : lz_B 10000000000000000 Z := fun i j => lz_b_w (hbz i j) (by omega)
  have ct := lz_CT (f := lr_arF (B k) Tr (2 * N) (nI k1) (nI k2)) hN (X := Z) (by rw [eF, lz_O_id hop]) hsy hbz
  have hop0 : ∀ i, i < 2 * N → 0 ≤ lm_arX (iv_mat N (B k)) k1 k2 i (lr_op i) := fun i hi => iv_op0 eX hi (lr_op_lt hi) (Or.inr (hop i hi))
  have hsub : ∀ {o}, lm_Cl N (lm_arX (iv_mat N (B k)) k1 k2) o → ∀ q q1 q2, q < 8 → nI k = nI q → 1 ≤ q1 → q1 ≤ N → nI k1 = nI q1 → 1 ≤ q2 → q2 ≤ N → nI k2 = nI q2 → ¬ q1 = q2 → Em q = 0 → lm_Cl N (lm_arX (iv_mat N (B q)) q1 q2) o := by
    intro o ho q q1 q2 l e l1 l2 e1 l3 l4 e2 _ _
    rw [← iv_8 hk l e, ← iv_8 (show k1 < 8 by omega) (show q1 < 8 by omega) e1, ← iv_8 (show k2 < 8 by omega) (show q2 < 8 by omega) e2]
    exact ho
  rcases ct with ⟨c1, c2, c3⟩ | ⟨c1, c2⟩
  · exact ⟨_, hsub (iv_R1 hN (by rw [eX, lz_O_id hop]) hsy hb10 hop0 c2 c3 (by omega) (by omega)), Or.inl ⟨c1, _, rfl⟩⟩
  · exact ⟨_, hsub (iv_R0 hN (by rw [eX, lz_O_id hop]) hsy hb10 hop0 c2), Or.inr ⟨c1, rfl⟩⟩
