/-! row -/
theorem lr_pl_op {x : Int32} (h : lr_sm x) (h0 : ¬ x = 0) : lr_pl (-x) = lr_op (lr_pl x) := by
  obtain ⟨a, b⟩ := h
  have hi : x.toInt ≠ 0 := fun q => h0 (lr_i32 (by rw [q]; decide))
  have e : (-x).toInt = -x.toInt := lr_negI (by omega)
  unfold lr_pl lr_op
  rw [e]
  by_cases hp : 0 < x.toInt
  · rw [if_pos hp, if_neg (by omega), if_pos (by omega)]; omega
  · rw [if_neg hp, if_pos (by omega), if_neg (by omega)]; omega
theorem lr_pl_inj {x y : Int32} (hx : lr_sm x) (hy : lr_sm y) (h0 : ¬ x = 0) (h1 : ¬ y = 0) (h : lr_pl x = lr_pl y) : x = y := by
  obtain ⟨a, b⟩ := hx
  obtain ⟨c, d⟩ := hy
  have hi : x.toInt ≠ 0 := fun q => h0 (lr_i32 (by rw [q]; decide))
  have hj : y.toInt ≠ 0 := fun q => h1 (lr_i32 (by rw [q]; decide))
  apply lr_i32
  unfold lr_pl at h
  split at h <;> split at h <;> omega
theorem lz_lmhalf {v : Int64} (h1 : -1000000000 ≤ v.toInt) (h2 : v.toInt ≤ 1000000000) : lz_v (lm_half v) = some (v.toInt / 2) := by
  have e1 : (1 : Int64).toInt = 1 := by decide
  have e0 : (0 : Int64).toInt = 0 := by decide
  have e3 : (lm_half v).toInt = v.toInt / 2 := by
    unfold lm_half
    by_cases w : v < 0
    · rw [if_pos w]
      have w' := Int64.lt_iff_toInt_lt.mp w
      rw [e0] at w'
      have e5 : (v - 1).toInt = v.toInt - 1 := by rw [lz_sub (by rw [e1]; omega) (by rw [e1]; omega), e1]
      rw [lz_div (by rw [e5]; omega), e5, if_neg (by omega)]
      omega
    · rw [if_neg w]
      have w' := Int64.le_iff_toInt_le.mp (Int64.not_lt.mp w)
      rw [e0] at w'
      rw [lz_div (by omega), if_pos w']
  have h3 : ¬ lm_half v = lr_E := fun q => by rw [q, lz_ET] at e3; omega
  rw [lz_v_s h3, e3]
theorem okG.t {v : Int64} (h : okG v) : -1000000000 ≤ v.toInt ∧ v.toInt ≤ 1000000000 := by
  have a := Int64.le_iff_toInt_le.mp (Int64.not_lt.mp h.1)
  have b := Int64.le_iff_toInt_le.mp h.2
  rw [show (-1000000000 : Int64).toInt = -1000000000 from by decide] at a
  rw [show (1000000000 : Int64).toInt = 1000000000 from by decide] at b
  exact ⟨a, b⟩
theorem okG.v {v : Int64} (h : okG v) : lz_v v = some v.toInt := by
  have := h.t
  refine lz_v_s (fun q => ?_)
  rw [q, lz_ET] at this; omega
theorem okG.v2 {v : Int64} (h : okG v) : lz_v (2 * v) = some (2 * v.toInt) := by
  have t := h.t
  have := lz_dbl (M := 1000000000) (c := v) (by rw [h.v]; exact lz_b_s.mpr t) (by omega)
  rw [if_neg (fun q => by rw [q, lz_ET] at t; omega), h.v] at this
  exact this
def iv_a (y z : Int32) (v : Int64) : Int := if y = 0 then 2 * v.toInt else if z = 0 then 2 * v.toInt else if y = z then 2 * (v.toInt / 2) else v.toInt
theorem iv_a_b {y z : Int32} {v : Int64} (h : okG v) : -2000000001 ≤ iv_a y z v ∧ iv_a y z v ≤ 2000000001 := by
  have := h.t
  unfold iv_a; split
  · omega
  · split
    · omega
    · split <;> omega
theorem iv_pq {N : Nat} {y z : Int32} (hN : N ≤ 5) (hy : okT N y) (hz : okT N z) (hn : ¬ y = -z) : lr_pl (lm_x1 y z) < 2 * N ∧ lr_pl (lm_x1 z y) < 2 * N ∧ lr_pl (lm_x1 z y) ≠ lr_op (lr_pl (lm_x1 y z)) ∧ (lr_pl (lm_x1 y z) = lr_pl (lm_x1 z y) ↔ (y = 0 ∨ z = 0 ∨ y = z)) := by
  have ty := hy.tm hN
  have tz := hz.tm hN
  have h00 : ¬ (y = 0 ∧ z = 0) := fun w => hn (by rw [w.1, w.2]; decide)
  have a := lm_x1_tm ty tz
  have b := lm_x1_tm tz ty
  have na := lm_x1_nz h00
  have nb := lm_x1_nz (fun w : z = 0 ∧ y = 0 => h00 ⟨w.2, w.1⟩)
  refine ⟨a.2 na, b.2 nb, fun e => ?_, ⟨fun e => ?_, fun e => ?_⟩⟩
  · rw [← lr_pl_op a.1 na] at e
    have e := lr_pl_inj b.1 (neg_small a.1) nb (mz_nz na) e
    unfold lm_x1 at e na nb
    by_cases w1 : y = 0
    · rw [if_pos w1] at e
      rw [if_neg (fun w => h00 ⟨w1, w⟩)] at e
      have : z.toInt = -z.toInt := by rw [← lr_negI (x := z) (by have := tz.1.1; omega), ← e]
      exact h00 ⟨w1, lr_i32 (by rw [show z.toInt = 0 by omega]; decide)⟩
    · rw [if_neg w1] at e
      by_cases w2 : z = 0
      · rw [if_pos w2] at e
        have : y.toInt = -y.toInt := by rw [← lr_negI (x := y) (by have := ty.1.1; omega), ← e]
        exact w1 (lr_i32 (by rw [show y.toInt = 0 by omega]; decide))
      · rw [if_neg w2] at e
        exact hn (by rw [e, lr_negneg])
  · have e := lr_pl_inj a.1 b.1 na nb e
    unfold lm_x1 at e
    by_cases w1 : y = 0
    · exact Or.inl w1
    · by_cases w2 : z = 0
      · exact Or.inr (Or.inl w2)
      · rw [if_neg w1, if_neg w2] at e; exact Or.inr (Or.inr e)
  · congr 1
    unfold lm_x1
    rcases e with e | e | e
    · rw [if_pos e, if_neg (fun w => h00 ⟨e, w⟩)]
    · rw [if_pos e, if_neg (fun w => h00 ⟨w, e⟩)]
    · rw [e]
theorem iv_rowK {N : Nat} {K : Nat → Int64} {y z : Int32} {v : Int64} (hN : N ≤ 5) (hy : okT N y) (hz : okT N z) (hv : okG v) (hn : ¬ y = -z) (hb : lz_B 2000000000000000 (lz_T (2 * N) K)) : lz_T (2 * N) (lr_addK K (2 * N) y z v) = lq_up (lz_T (2 * N) K) (lr_pl (lm_x1 y z)) (lr_pl (lm_x1 z y)) (lr_mn (lz_T (2 * N) K (lr_pl (lm_x1 y z)) (lr_pl (lm_x1 z y))) (some (iv_a y z v))) := by
  obtain ⟨hp, hq, -, -⟩ := iv_pq hN hy hz hn
  have t := hv.t
  have h00 : ¬ (y = 0 ∧ z = 0) := fun w => hn (by rw [w.1, w.2]; decide)
  unfold lr_addK iv_a
  by_cases w1 : y = 0
  · have w2 : ¬ z = 0 := fun w => h00 ⟨w1, w⟩
    rw [if_pos w1, if_pos w1]
    have e1 : lm_x1 y z = z := by unfold lm_x1; rw [if_pos w1]
    have e2 : lm_x1 z y = z := by unfold lm_x1; rw [if_neg w2]
    rw [e1] at hp
    rw [e1, e2]
    rw [lz_T_lower hp hp (hb _ _) (M' := 2000000000) (by rw [hv.v2]; exact lz_b_s.mpr (by omega)) (by omega) (by omega), hv.v2]
  · rw [if_neg w1, if_neg w1]
    have e1 : lm_x1 y z = y := by unfold lm_x1; rw [if_neg w1]
    by_cases w2 : z = 0
    · rw [if_pos w2, if_pos w2]
      have e2 : lm_x1 z y = y := by unfold lm_x1; rw [if_pos w2]
      rw [e1] at hp
      rw [e1, e2]
      rw [lz_T_lower hp hp (hb _ _) (M' := 2000000000) (by rw [hv.v2]; exact lz_b_s.mpr (by omega)) (by omega) (by omega), hv.v2]
    · rw [if_neg w2, if_neg w2]
      have e2 : lm_x1 z y = z := by unfold lm_x1; rw [if_neg w2]
      rw [e1] at hp
      rw [e2] at hq
      rw [e1, e2]
      by_cases w3 : y = z
      · rw [if_pos w3, if_pos w3, ← w3]
        have f := lz_fd (M := 1000000000) (c := v) (fun q => by rw [q, lz_ET] at t; omega) (by rw [hv.v]; exact lz_b_s.mpr t) (by omega)
        rw [lz_T_lower hp hp (hb _ _) f.2 (by omega) (by omega), f.1, hv.v]; rfl
      · rw [if_neg w3, if_neg w3]
        rw [lz_T_lower hp hq (hb _ _) (M' := 1000000000) (by rw [hv.v]; exact lz_b_s.mpr t) (by omega) (by omega), hv.v]
theorem iv_K_up {N p q : Nat} {Z : lr_M} {a : Int} (h : iv_K N Z) (hp : p < 2 * N) (hq : q < 2 * N) (hn : q ≠ lr_op p) (he : p = q → a % 2 = 0) (h1 : -2000000000000000 ≤ a) (h2 : a ≤ 2000000000000000) : iv_K N (lq_up Z p q (lr_mn (Z p q) (some a))) := by
  obtain ⟨a1, a2, a3, a4, a5⟩ := h
  refine ⟨fun i hi j hj => ?_, fun i j => ?_, fun i hi x hx => ?_, fun i hi => ?_, fun i j w => ?_⟩
  · unfold lq_up
    by_cases w : (i = p ∧ j = q) ∨ (i = q ∧ j = p)
    · rw [if_pos w, if_pos (by omega)]
    · rw [if_neg w, if_neg (by omega)]; exact a1 i hi j hj
  · unfold lq_up; split
    · exact lz_b_mn (a2 p q) (lz_b_s.mpr ⟨h1, h2⟩)
    · exact a2 i j
  · rcases lq_up_or (C := Z) (i := p) (k := q) (x := i) (y := i) (c := lr_mn (Z p q) (some a)) with ⟨w, e⟩ | ⟨_, e⟩ <;> rw [e] at hx
    · have e1 : p = q := by omega
      have e2 : i = p := by omega
      subst e1; subst e2
      rcases lr_mn_or (Z i i) (some a) with t | t <;> rw [t] at hx
      · exact a3 i hi x hx
      · injection hx with hx; rw [← hx]; exact he rfl
    · exact a3 i hi x hx
  · rw [lq_up_ne]
    · exact a4 i hi
    · rintro (⟨rfl, w⟩ | ⟨w1, w2⟩)
      · exact hn w.symm
      · exact hn (by rw [← w2, w1, lr_op_op])
  · rw [lq_up_ne (by rintro (⟨rfl, rfl⟩ | ⟨rfl, rfl⟩) <;> exact w ⟨by omega, by omega⟩)]; exact a5 i j w
theorem iv_hv_le {z : Option Int} {a : Int} {p q : Nat} (he : p = q → a % 2 = 0) (he2 : p = q → ∀ x, z = some x → x % 2 = 0) : lr_le (lz_hv p q z) (lz_hv p q (some a)) ↔ lr_le z (some a) := by
  unfold lz_hv
  by_cases w : p = q
  · rw [if_pos w, if_pos w]
    have := he w
    cases z with
    | none => simp [lr_hf, lr_le]
    | some x => have := he2 w x rfl; simp [lr_hf, lr_le]; omega
  · rw [if_neg w, if_neg w]
theorem iv_rs {N k p q : Nat} {Z : lr_M} {R : Nat → Int64} {w : Int64} {a : Int} (hN : N ≤ 5) (hK : iv_K N Z) (h : iv_rr Z R k) (hp : p < 2 * N) (hq : q < 2 * N) (he : p = q → a % 2 = 0) (h1 : -2000000000000000 ≤ a) (h2 : a ≤ 2000000000000000) (hw : lz_v w = lz_hv p q (some a)) : iv_rr (lq_up Z p q (lr_mn (Z p q) (some a))) (lm_rs R k p q w) k ∧ iv_ot R (lm_rs R k p q w) k ∧ iv_rr Z (lm_bk R (lm_rs R k p q w) k p q) k ∧ iv_ot R (lm_bk R (lm_rs R k p q w) k p q) k := by
  have hpq := h p (by omega) q (by omega)
  have hqp := h q (by omega) p (by omega)
  have hZ := hK.1 p hp q hq
  have bz : lz_b 2000000000000000 (lz_hv p q (Z p q)) := by
    unfold lz_hv; split
    · exact lz_b_hf (hK.2.1 _ _) (by omega)
    · exact hK.2.1 _ _
  have ba : lz_b 2000000000000000 (lz_hv p q (some a)) := by
    unfold lz_hv; split
    · exact lz_b_hf (lz_b_s.mpr ⟨h1, h2⟩) (by omega)
    · exact lz_b_s.mpr ⟨h1, h2⟩
  have hvs : ∀ x, lz_hv q p x = lz_hv p q x := fun x => by
    unfold lz_hv
    by_cases w : p = q
    · rw [if_pos w, if_pos w.symm]
    · rw [if_neg w, if_neg (fun e => w e.symm)]
  have hle := lz_le (c := R (100 * k + (10 * p + q))) (d := w) (by rw [hpq]; exact bz) (by rw [hw]; exact ba) (by omega) (by omega)
  rw [hpq, hw, iv_hv_le he (fun e x hx => by subst e; exact hK.2.2.1 p hp x hx)] at hle
  have hsame : R (100 * k + (10 * q + p)) = R (100 * k + (10 * p + q)) := lz_v_inj (by rw [hpq, hqp, hvs, hZ])
  have ei : 100 * k + 10 * p + q = 100 * k + (10 * p + q) := by omega
  have ei' : 100 * k + 10 * q + p = 100 * k + (10 * q + p) := by omega
  have hbk : ∀ R1 : Nat → Int64, (∀ c, c ≠ 100 * k + (10 * p + q) → c ≠ 100 * k + (10 * q + p) → R1 c = R c) → ∀ c, lm_bk R R1 k p q c = R c := fun R1 hR c => by
    unfold lm_bk
    rw [lm_up2, ei, ei']
    by_cases w : c = 100 * k + (10 * p + q) ∨ c = 100 * k + (10 * q + p)
    · rw [if_pos w]
      rcases w with w | w
      · rw [w]
      · rw [w, hsame]
    · rw [if_neg w]; exact hR c (fun e => w (Or.inl e)) (fun e => w (Or.inr e))
  unfold lm_rs
  rw [ei, ei']
  by_cases hc : R (100 * k + (10 * p + q)) ≤ w
  · rw [if_pos hc]
    rw [hle] at hc
    rw [lr_mn_of hc]
    have e : lq_up Z p q (Z p q) = Z := by
      funext x y; unfold lq_up
      by_cases w : (x = p ∧ y = q) ∨ (x = q ∧ y = p)
      · rw [if_pos w]
        rcases w with ⟨rfl, rfl⟩ | ⟨rfl, rfl⟩
        · rfl
        · exact hZ
      · rw [if_neg w]
    rw [e]
    have hb := hbk R (fun _ _ _ => rfl)
    refine ⟨h, iv_ot.rf, fun i hi j hj => ?_, fun g hg c hc => hb _⟩
    rw [hb]; exact h i hi j hj
  · rw [if_neg hc]
    rw [hle] at hc
    rw [lr_mn_of' hc]
    have hb := hbk (vp_updL (vp_updL R (100 * k + (10 * p + q)) w) (100 * k + (10 * q + p)) w) (fun c c1 c2 => by rw [lm_up2, if_neg (by omega)])
    refine ⟨fun i hi j hj => ?_, fun g hg c hc => ?_, fun i hi j hj => ?_, fun g hg c hc => hb _⟩
    · rw [lm_up2]
      by_cases c : 100 * k + (10 * i + j) = 100 * k + (10 * p + q) ∨ 100 * k + (10 * i + j) = 100 * k + (10 * q + p)
      · rw [if_pos c, hw]
        have c' : (i = p ∧ j = q) ∨ (i = q ∧ j = p) := by omega
        rcases c' with ⟨rfl, rfl⟩ | ⟨rfl, rfl⟩
        · rw [lq_up_in]
        · rw [lq_up_sy, hvs]
      · rw [if_neg c, lq_up_ne (by omega)]; exact h i hi j hj
    · rw [lm_up2, if_neg (by omega)]
    · rw [hb]; exact h i hi j hj
theorem iv_rv {N : Nat} {y z : Int32} {v : Int64} (hN : N ≤ 5) (hy : okT N y) (hz : okT N z) (hv : okG v) (hn : ¬ y = -z) : lz_v (lm_rv y z v) = lz_hv (lr_pl (lm_x1 y z)) (lr_pl (lm_x1 z y)) (some (iv_a y z v)) ∧ (lr_pl (lm_x1 y z) = lr_pl (lm_x1 z y) → iv_a y z v % 2 = 0) := by
  obtain ⟨-, -, -, hpq⟩ := iv_pq hN hy hz hn
  have t := hv.t
  have h00 : ¬ (y = 0 ∧ z = 0) := fun w => hn (by rw [w.1, w.2]; decide)
  constructor
  · unfold lm_rv lz_hv iv_a
    by_cases w3 : y = z
    · have w1 : ¬ y = 0 := fun w => h00 ⟨w, by rw [← w3]; exact w⟩
      rw [if_pos w3, if_pos (hpq.mpr (Or.inr (Or.inr w3))), if_neg w1, if_neg (by rw [← w3]; exact w1), if_pos w3, lz_lmhalf t.1 t.2]
      simp [lr_hf]
    · rw [if_neg w3, hv.v]
      by_cases w1 : y = 0
      · rw [if_pos (hpq.mpr (Or.inl w1)), if_pos w1]; simp [lr_hf]
      · by_cases w2 : z = 0
        · rw [if_pos (hpq.mpr (Or.inr (Or.inl w2))), if_neg w1, if_pos w2]; simp [lr_hf]
        · rw [if_neg (fun e => by have := hpq.mp e; rcases this with q | q | q; exact w1 q; exact w2 q; exact w3 q), if_neg w1, if_neg w2, if_neg w3]
  · intro e
    have := hpq.mp e
    unfold iv_a
    rcases this with q | q | q
    · rw [if_pos q]; omega
    · split
      · omega
      · omega
    · split
      · omega
      · split
        · omega
        · first
          | omega
          | (rw [if_pos q]; omega)
/-- row, held together -/
theorem iv_row {N k : Nat} {K B : Nat → Nat → Int64} {E Em : Nat → Int32} {R : Nat → Int64} {Km Bm K1 B1 : Nat → Int64} {E1 : Int32} {y z : Int32} {v : Int64} (hN : N ≤ 5) (h : iv_A N K B E R Em) (hk : k < 8) (hy : okT N y) (hz : okT N z) (hv : okG v) (ha : lr_addO (lr_copy (K k) Km (2 * N * (2 * N))) (lr_copy (B k) Bm (2 * N * (2 * N))) (2 * N) (E k) y z v K1 B1 E1) : ∃ o, (∀ q, q < 8 → nI k = nI q → Em q = 0 → okT N y → okT N z → okG v → ¬ y = -z → lm_Cl N (lm_mx (lm_rowR R q y z v) q) o) ∧
    (∀ K2 B2 E2 r th r' R1 Em1, lr_tkO (2 * N) K1 B1 E1 (K k) (B k) K2 B2 E2 r → lm_rowO N R Em (nI k) y z v o th r' R1 Em1 → th = nI 0 ∧ r' = r ∧ iv_A N (va_up K k K2) (va_up B k B2) (va_up E k E2) R1 Em1) ∧
    (∀ th r' R1 Em1, E1 = 0 → lr_tooFar B1 (2 * N) → lm_rowO N R Em (nI k) y z v o th r' R1 Em1 → th = nI 3 ∧ iv_A N K B E R1 Em1) := by
  obtain ⟨hsh, hrr, hem⟩ := h k hk
  have hS : okS (nI k) := ⟨nI_pos (by omega), (nI_ltI (by omega) (by decide)).mpr hk⟩
  -- what the reference tells
  have hro : ∀ {o th r' R1 Em1}, lm_rowO N R Em (nI k) y z v o th r' R1 Em1 → ((¬ E k = 0 ∧ th = nI 0 ∧ r' = nI 0 ∧ R1 = R ∧ Em1 = Em) ∨ (E k = 0 ∧ y = -z ∧ 0 ≤ v ∧ th = nI 0 ∧ r' = nI 1 ∧ R1 = R ∧ Em1 = Em) ∨ (E k = 0 ∧ y = -z ∧ ¬ 0 ≤ v ∧ th = nI 0 ∧ r' = nI 0 ∧ R1 = lm_none R k ∧ Em1 = upd Em k (nI 1)) ∨ (E k = 0 ∧ ¬ y = -z ∧ o = none ∧ th = nI 0 ∧ r' = nI 0 ∧ R1 = lm_none (lm_rowR R k y z v) k ∧ Em1 = upd Em k (nI 1)) ∨ (E k = 0 ∧ ¬ y = -z ∧ ∃ Y, o = some Y ∧ ((lm_farM N Y ∧ th = nI 3 ∧ r' = nI 0 ∧ R1 = lm_bk R (lm_rowR R k y z v) k (lr_pl (lm_x1 y z)) (lr_pl (lm_x1 z y)) ∧ Em1 = Em) ∨ (¬ lm_farM N Y ∧ th = nI 0 ∧ r' = nI 1 ∧ R1 = lm_rowR R k y z v ∧ Em1 = Em)))) := by
    intro o th r' R1 Em1 hr
    rcases hr with ⟨w, _⟩ | ⟨_, w, _⟩ | ⟨q, hq, e, _, _, _, hr⟩
    · exact absurd ⟨hS, hy, hz⟩ w
    · exact absurd hv w
    · have := iv_8 hk hq e
      subst this
      rw [hem] at hr
      exact hr
  rcases ha with ⟨he, rfl, rfl, rfl⟩ | ⟨he, hyz, h0, rfl, rfl, rfl⟩ | ⟨he, hyz, h0, rfl, ⟨B', rfl⟩, rfl⟩ | ⟨he, hyz, hcl⟩
  · refine ⟨none, fun q hq e w => ?_, fun K2 B2 E2 r th r' R1 Em1 ht hr => ?_, fun th r' R1 Em1 w => absurd w he⟩
    · have := iv_8 hk hq e
      subst this
      rw [hem] at w; exact absurd w he
    · obtain ⟨t1, t2, t3, _, t5⟩ := iv_tk ht
      rcases hro hr with ⟨_, r1, r2, rfl, rfl⟩ | ⟨w, _⟩ | ⟨w, _⟩ | ⟨w, _⟩ | ⟨w, _⟩
      · exact ⟨r1, r2.trans (t5 he).symm, iv_same h (t1.trans lz_T_copy) (t2.trans lz_T_copy) t3⟩
      all_goals exact absurd w he
  · refine ⟨none, fun q hq e w _ _ _ w2 => absurd hyz w2, fun K2 B2 E2 r th r' R1 Em1 ht hr => ?_, fun th r' R1 Em1 _ w => ?_⟩
    · obtain ⟨t1, t2, t3, t4, _⟩ := iv_tk ht
      rcases hro hr with ⟨w, _⟩ | ⟨_, _, _, r1, r2, rfl, rfl⟩ | ⟨_, _, w, _⟩ | ⟨_, w, _⟩ | ⟨_, w, _⟩
      · exact absurd he w
      · exact ⟨r1, r2.trans (t4 he).2.symm, iv_same h (t1.trans lz_T_copy) (t2.trans lz_T_copy) t3⟩
      · exact absurd h0 w
      · exact absurd hyz w
      · exact absurd hyz w
    · exfalso
      rcases hsh.2 with ⟨_, s1, s2⟩ | ⟨s1, _⟩
      · have := (iv_far (B := lr_copy (B k) Bm (2 * N * (2 * N))) (M := 2000000000000000) (by rw [lz_T_copy]; exact s1.1) (by rw [lz_T_copy]; exact lz_nf_B s2 lz_T_gd) (by omega)).2.mp w
        rw [lz_T_copy] at this; exact this s2
      · rw [s1] at he; exact absurd he (by decide)
  · refine ⟨none, fun q hq e w _ _ _ w2 => absurd hyz w2, fun K2 B2 E2 r th r' R1 Em1 ht hr => ?_, fun th r' R1 Em1 w => absurd w (by decide)⟩
    obtain ⟨t1, t2, t3, _, t5⟩ := iv_tk ht
    rcases hro hr with ⟨w, _⟩ | ⟨_, _, w, _⟩ | ⟨_, _, _, r1, r2, rfl, rfl⟩ | ⟨_, w, _⟩ | ⟨_, w, _⟩
    · exact absurd he w
    · exact absurd w h0
    · refine ⟨r1, r2.trans (t5 (by decide)).symm, iv_up h ?_ ?_ iv_ot_none (fun q hq => lm_upd_n hq) (by rw [lm_upd_k, t3])⟩
      · rw [t1, lz_T_all, t3]; exact iv_empty
      · rw [t1, lz_T_all]; exact iv_rr_none
    · exact absurd hyz w
    · exact absurd hyz w
  · rw [he] at hcl
    have hZ : lz_T (2 * N) (lr_copy (K k) Km (2 * N * (2 * N))) = lz_T (2 * N) (K k) := lz_T_copy
    have hKz := hsh.1
    obtain ⟨hp, hq, hpq, _⟩ := iv_pq hN hy hz hyz
    obtain ⟨hrv, hev⟩ := iv_rv hN hy hz hv hyz
    have hab := iv_a_b (y := y) (z := z) hv
    have hK1 := iv_K_up (a := iv_a y z v) hKz hp hq hpq hev (by omega) (by omega)
    have eK : lz_T (2 * N) (lr_addK (lr_copy (K k) Km (2 * N * (2 * N))) (2 * N) y z v) = lq_up (lz_T (2 * N) (K k)) (lr_pl (lm_x1 y z)) (lr_pl (lm_x1 z y)) (lr_mn (lz_T (2 * N) (K k) (lr_pl (lm_x1 y z)) (lr_pl (lm_x1 z y))) (some (iv_a y z v))) := by
      rw [iv_rowK hN hy hz hv hyz (by rw [hZ]; exact hKz.2.1), hZ]
    rw [← eK] at hK1
    obtain ⟨r1, r2, r3, r4⟩ := iv_rs (w := lm_rv y z v) hN hKz hrr hp hq hev (by omega) (by omega) hrv
    rw [← eK] at r1
    have hmx := iv_mx hN hK1 r1
    have clo := iv_clo hN hK1.OS hK1.OB hcl
    obtain ⟨o, ho1, ho2⟩ := iv_o hN (X := lm_mx (lm_rowR R k y z v) k) (by rw [show lm_rowR R k y z v = lm_rs R k (lr_pl (lm_x1 y z)) (lr_pl (lm_x1 z y)) (lm_rv y z v) from rfl, hmx]) (fun i hi => iv_op0 hmx hi (lr_op_lt hi) (Or.inl (hK1.2.2.2.1 i hi))) hK1.OS hK1.OB clo
    refine ⟨o, fun q hq e _ _ _ _ _ => by rw [← iv_8 hk hq e]; exact ho1, fun K2 B2 E2 r th r' R1 Em1 ht hr => ?_, fun th r' R1 Em1 w wf hr => ?_⟩
    · obtain ⟨t1, t2, t3, t4, t5⟩ := iv_tk ht
      rcases hro hr with ⟨w, _⟩ | ⟨_, w, _⟩ | ⟨_, w, _⟩ | ⟨_, _, q0, q1, q2, rfl, rfl⟩ | ⟨_, _, Y, q0, q1⟩
      · exact absurd he w
      · exact absurd w hyz
      · exact absurd w hyz
      · rcases ho2 with ⟨_, w⟩ | ⟨w, _⟩
        · rw [w] at q0; exact absurd q0 (by simp)
        · rcases clo with ⟨w2, _⟩ | ⟨_, c2, _⟩
          · rw [w] at w2; exact absurd w2 (by decide)
          · refine ⟨q1, q2.trans (t5 (by rw [w]; decide)).symm, iv_up h ?_ ?_ (r2.trans iv_ot_none) (fun q hq => lm_upd_n hq) (by rw [lm_upd_k, t3, w]; decide)⟩
            · rw [t1, c2, t3, w]; exact iv_empty
            · rw [t1, c2]; exact iv_rr_none
      · rcases ho2 with ⟨w, w1⟩ | ⟨_, w⟩
        · rcases clo with ⟨_, c1, c2, c3⟩ | ⟨w2, _⟩
          · rw [w1] at q0; injection q0 with q0; subst q0
            obtain ⟨f1, f2⟩ := iv_far c2.1 c3 (by omega)
            obtain ⟨t6, t7⟩ := t4 w
            rcases q1 with ⟨w3, _⟩ | ⟨_, q3, q4, rfl, rfl⟩
            · exact absurd (f2.mpr (f1.mp w3)) t6
            · refine ⟨q3, q4.trans t7.symm, iv_up h ?_ ?_ r2 (fun _ _ => rfl) (by rw [hem, he, t3, w])⟩
              · rw [t1, t2, t3, c1, w]
                exact ⟨hK1, Or.inl ⟨rfl, c2, Classical.byContradiction fun w => t6 (f2.mpr w)⟩⟩
              · rw [t1, c1]; exact r1
          · rw [w] at w2; exact absurd w2 (by decide)
        · rw [w] at q0; exact absurd q0 (by simp)
    · rcases ho2 with ⟨_, w1⟩ | ⟨w1, _⟩
      · rcases clo with ⟨_, c1, c2, c3⟩ | ⟨w2, _⟩
        · obtain ⟨f1, f2⟩ := iv_far c2.1 c3 (by omega)
          rcases hro hr with ⟨w, _⟩ | ⟨_, w, _⟩ | ⟨_, w, _⟩ | ⟨_, _, q0, q1, q2, rfl, rfl⟩ | ⟨_, _, Y, q0, q1⟩
          · exact absurd he w
          · exact absurd w hyz
          · exact absurd w hyz
          · rw [w1] at q0; exact absurd q0 (by simp)
          · rw [w1] at q0; injection q0 with q0; subst q0
            rcases q1 with ⟨_, q3, q4, rfl, rfl⟩ | ⟨w3, _⟩
            · refine ⟨q3, fun q hq => ?_⟩
              obtain ⟨a1, a2, a3⟩ := h q hq
              by_cases e : q = k
              · subst e; exact ⟨a1, r3, a3⟩
              · exact ⟨a1, fun i hi j hj => by rw [show lm_rowR R k y z v = lm_rs R k (lr_pl (lm_x1 y z)) (lr_pl (lm_x1 z y)) (lm_rv y z v) from rfl, r4 q e _ (by omega)]; exact a2 i hi j hj, a3⟩
            · exact absurd (f1.mpr (f2.mp wf)) w3
        · rw [w] at w2; exact absurd w2 (by decide)
      · rw [w] at w1; exact absurd w1 (by decide)
