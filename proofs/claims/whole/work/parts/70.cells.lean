/-! CELLS AS BOUNDS: none is ENDLESS -/
def lz_v (c : Int64) : Option Int := if c = lr_E then none else some c.toInt
def lz_b (M : Int) (z : Option Int) : Prop := ∀ x, z = some x → -M ≤ x ∧ x ≤ M
theorem lz_ET : (lr_E).toInt = 4611686018427387904 := by decide
theorem lz_i64 {x y : Int64} (h : x.toInt = y.toInt) : x = y := Int64.toInt_inj.mp h
theorem lz_v_E : lz_v lr_E = none := if_pos rfl
theorem lz_v_n {c : Int64} : lz_v c = none ↔ c = lr_E := by
  unfold lz_v; by_cases h : c = lr_E
  · simp [h]
  · simp [h]
theorem lz_v_s {c : Int64} (h : ¬ c = lr_E) : lz_v c = some c.toInt := if_neg h
theorem lz_v_x {c : Int64} {x : Int} (h : lz_v c = some x) : ¬ c = lr_E ∧ c.toInt = x := by
  by_cases q : c = lr_E
  · rw [q, lz_v_E] at h; exact absurd h (by simp)
  · rw [lz_v_s q] at h; injection h with h; exact ⟨q, h⟩
theorem lz_v_inj {c d : Int64} (h : lz_v c = lz_v d) : c = d := by
  by_cases q : c = lr_E
  · rw [q, lz_v_E] at h; exact q.trans (lz_v_n.mp h.symm).symm
  · rw [lz_v_s q] at h; exact lz_i64 (lz_v_x h.symm).2.symm
theorem lz_b_n {M : Int} : lz_b M none := fun x h => absurd h (by simp)
theorem lz_b_w {M M' : Int} {z : Option Int} (h : lz_b M z) (hm : M ≤ M') : lz_b M' z := fun x e => by
  have := h x e; omega
theorem lz_b_s {M x : Int} : lz_b M (some x) ↔ (-M ≤ x ∧ x ≤ M) := ⟨fun h => h x rfl, fun h y e => by injection e with e; rw [← e]; exact h⟩
theorem lz_b_ad {M M' : Int} {z w : Option Int} (h : lz_b M z) (k : lz_b M' w) : lz_b (M + M') (lr_ad z w) := by
  intro x e
  cases z with
  | none => simp [lr_ad] at e
  | some a =>
    cases w with
    | none => simp [lr_ad] at e
    | some b =>
      have e : some (a + b) = some x := e
      injection e with e
      have := h a rfl
      have := k b rfl
      omega
theorem lz_b_mn {M : Int} {z w : Option Int} (h : lz_b M z) (k : lz_b M w) : lz_b M (lr_mn z w) := by
  rcases lr_mn_or z w with e | e <;> rw [e]
  · exact h
  · exact k
theorem lz_add {x y : Int64} (h1 : -9223372036854775808 ≤ x.toInt + y.toInt) (h2 : x.toInt + y.toInt < 9223372036854775808) : (x + y).toInt = x.toInt + y.toInt := by
  rw [Int64.toInt_add]; exact Int.bmod_eq_of_le_mul_two (by omega) (by omega)
theorem lz_sub {x y : Int64} (h1 : -9223372036854775808 ≤ x.toInt - y.toInt) (h2 : x.toInt - y.toInt < 9223372036854775808) : (x - y).toInt = x.toInt - y.toInt := by
  rw [Int64.toInt_sub]; exact Int.bmod_eq_of_le_mul_two (by omega) (by omega)
theorem lz_mul {x y : Int64} (h1 : -9223372036854775808 ≤ x.toInt * y.toInt) (h2 : x.toInt * y.toInt < 9223372036854775808) : (x * y).toInt = x.toInt * y.toInt := by
  rw [Int64.toInt_mul]; exact Int.bmod_eq_of_le_mul_two (by omega) (by omega)
theorem lz_neg {x : Int64} (h1 : -9223372036854775808 < x.toInt) : (-x).toInt = -x.toInt := by
  have := Int64.toInt_lt x
  rw [Int64.toInt_neg]; exact Int.bmod_eq_of_le_mul_two (by omega) (by omega)
theorem lz_tdiv (x : Int) : x.tdiv 2 = if 0 ≤ x then x / 2 else -((-x) / 2) := by
  split
  · rename_i h; exact Int.tdiv_eq_ediv_of_nonneg h
  · rename_i h
    have : x = - -x := by omega
    rw [this, Int.neg_tdiv, Int.tdiv_eq_ediv_of_nonneg (by omega)]
    simp
theorem lz_div {x : Int64} (h1 : -9223372036854775808 < x.toInt) : (x / 2).toInt = if 0 ≤ x.toInt then x.toInt / 2 else -((-x.toInt) / 2) := by
  have e2 : (2 : Int64).toInt = 2 := by decide
  have := Int64.toInt_lt x
  rw [Int64.toInt_div, e2, lz_tdiv]
  split
  · exact Int.bmod_eq_of_le_mul_two (by omega) (by omega)
  · exact Int.bmod_eq_of_le_mul_two (by omega) (by omega)
theorem lz_plus {M M' : Int} {c d : Int64} (hc : lz_b M (lz_v c)) (hd : lz_b M' (lz_v d)) (hm : M + M' < 4611686018427387904) : lz_v (lr_plus c d) = lr_ad (lz_v c) (lz_v d) := by
  unfold lr_plus
  by_cases h1 : c = lr_E
  · rw [if_pos (Or.inl h1), h1, lz_v_E]; cases lz_v d <;> rfl
  by_cases h2 : d = lr_E
  · rw [if_pos (Or.inr h2), h2, lz_v_E]; cases lz_v c <;> rfl
  rw [if_neg (by simp [h1, h2]), lz_v_s h1, lz_v_s h2]
  have a := hc _ (lz_v_s h1)
  have b := hd _ (lz_v_s h2)
  have e : (c + d).toInt = c.toInt + d.toInt := lz_add (by omega) (by omega)
  have h3 : ¬ c + d = lr_E := fun q => by rw [q, lz_ET] at e; omega
  rw [lz_v_s h3, e]; rfl
theorem lz_le {M M' : Int} {c d : Int64} (hc : lz_b M (lz_v c)) (hd : lz_b M' (lz_v d)) (hm : M < 4611686018427387904) (hm' : M' < 4611686018427387904) : c ≤ d ↔ lr_le (lz_v c) (lz_v d) := by
  rw [Int64.le_iff_toInt_le]
  by_cases h1 : c = lr_E
  · by_cases h2 : d = lr_E
    · rw [h1, h2]; simp [lz_v_E, lr_le]
    · have b := hd _ (lz_v_s h2)
      rw [h1, lz_v_E, lz_v_s h2, lz_ET]
      simp [lr_le]; omega
  · have a := hc _ (lz_v_s h1)
    by_cases h2 : d = lr_E
    · rw [h2, lz_v_E, lz_v_s h1, lz_ET]
      simp [lr_le]; omega
    · rw [lz_v_s h1, lz_v_s h2]
      exact Iff.rfl
theorem lz_lt {M M' : Int} {c d : Int64} (hc : lz_b M (lz_v c)) (hd : lz_b M' (lz_v d)) (hm : M < 4611686018427387904) (hm' : M' < 4611686018427387904) : c < d ↔ ¬ lr_le (lz_v d) (lz_v c) := by
  rw [← lz_le hd hc hm' hm]; exact Int64.not_le.symm
theorem lr_mn_of {a b : Option Int} (h : lr_le a b) : lr_mn a b = a := by
  cases a <;> cases b <;> simp_all [lr_le, lr_mn]; omega
theorem lr_mn_of' {a b : Option Int} (h : ¬ lr_le a b) : lr_mn a b = b := by
  cases a <;> cases b <;> simp_all [lr_le, lr_mn]
theorem lz_min {M M' : Int} {c d : Int64} (hc : lz_b M (lz_v c)) (hd : lz_b M' (lz_v d)) (hm : M < 4611686018427387904) (hm' : M' < 4611686018427387904) : lz_v (lr_min c d) = lr_mn (lz_v c) (lz_v d) := by
  unfold lr_min
  by_cases h : d < c
  · rw [if_pos h, lr_mn_of' ((lz_lt hd hc hm' hm).mp h)]
  · rw [if_neg h, lr_mn_of ((lz_le hc hd hm hm').mp (Int64.not_lt.mp h))]
theorem lz_xor (x : Int64) : 0 ≤ x ^^^ 2 ↔ 0 ≤ x := by
  have h : ∀ y : Int64, 0 ≤ y ↔ y.toBitVec.msb = false := fun y => by
    rw [Int64.le_iff_toInt_le, show (0 : Int64).toInt = 0 from by decide]
    show 0 ≤ y.toBitVec.toInt ↔ _
    rw [BitVec.msb_eq_toInt]; simp
  rw [h, h]
  show (x.toBitVec ^^^ (2 : Int64).toBitVec).msb = false ↔ _
  rw [BitVec.msb_xor, show (2 : Int64).toBitVec.msb = false from by decide]; simp
theorem lz_fd {M : Int} {c : Int64} (h : ¬ c = lr_E) (hc : lz_b M (lz_v c)) (hm : M < 4611686018427387903) : lz_v (2 * lr_fd c 2) = lr_db (lr_hf (lz_v c)) ∧ lz_b (M + 1) (lz_v (2 * lr_fd c 2)) := by
  have a := hc _ (lz_v_s h)
  have e2 : (2 : Int64).toInt = 2 := by decide
  have hd := lz_div (x := c) (by omega)
  have e : (lr_fd c 2).toInt = c.toInt / 2 := by
    unfold lr_fd
    by_cases h0 : 0 ≤ c.toInt
    · rw [if_pos ((lz_xor c).mpr (Int64.le_iff_toInt_le.mpr h0)), hd, if_pos h0]
    · rw [if_neg (fun q => h0 (Int64.le_iff_toInt_le.mp ((lz_xor c).mp q)))]
      rw [if_neg h0] at hd
      have e3 : (c / 2 * 2).toInt = (c / 2).toInt * 2 := by rw [lz_mul (by rw [hd, e2]; omega) (by rw [hd, e2]; omega), e2]
      by_cases h1 : c / 2 * 2 = c
      · rw [if_pos h1, hd]
        rw [h1, hd] at e3
        omega
      · rw [if_neg h1, lz_sub (by rw [hd, show (1 : Int64).toInt = 1 from by decide]; omega) (by rw [hd, show (1 : Int64).toInt = 1 from by decide]; omega), hd, show (1 : Int64).toInt = 1 from by decide]
        have : (c / 2 * 2).toInt ≠ c.toInt := fun q => h1 (lz_i64 q)
        rw [e3, hd] at this
        omega
  have e4 : (2 * lr_fd c 2).toInt = 2 * (c.toInt / 2) := by rw [lz_mul (by rw [e, e2]; omega) (by rw [e, e2]; omega), e, e2]
  have h3 : ¬ 2 * lr_fd c 2 = lr_E := fun q => by rw [q, lz_ET] at e4; omega
  rw [lz_v_s h3, lz_v_s h, e4]
  exact ⟨rfl, lz_b_s.mpr (by omega)⟩
/-- halves of what is even -/
theorem lz_half {M : Int} {c : Int64} (hc : lz_b M (lz_v c)) (hm : M < 4611686018427387904) (he : ∀ x, lz_v c = some x → x % 2 = 0) : lz_v (if c = lr_E then lr_E else c / 2) = lr_hf (lz_v c) := by
  by_cases h : c = lr_E
  · rw [if_pos h, h, lz_v_E]; rfl
  · have a := hc _ (lz_v_s h)
    have b := he _ (lz_v_s h)
    have hd := lz_div (x := c) (by omega)
    have e : (c / 2).toInt = c.toInt / 2 := by rw [hd]; split <;> omega
    have h3 : ¬ c / 2 = lr_E := fun q => by rw [q, lz_ET] at e; omega
    rw [if_neg h, lz_v_s h3, lz_v_s h, e]; rfl
theorem lz_b_hf {M : Int} {z : Option Int} (h : lz_b M z) (h0 : 0 ≤ M) : lz_b M (lr_hf z) := by
  cases z with
  | none => exact lz_b_n
  | some x => have := h x rfl; exact lz_b_s.mpr (by omega)
/-- cells out of bounds -/
def lz_i (z : Option Int) : Int64 := match z with
  | none => lr_E
  | some x => Int64.ofInt x
theorem lz_vi {M : Int} {z : Option Int} (h : lz_b M z) (hm : M < 4611686018427387904) : lz_v (lz_i z) = z := by
  cases z with
  | none => exact lz_v_E
  | some x =>
    have a := h x rfl
    have e : (Int64.ofInt x).toInt = x := Int64.toInt_ofInt_of_le (by omega) (by omega)
    have h3 : ¬ Int64.ofInt x = lr_E := fun q => by rw [q, lz_ET] at e; omega
    show lz_v (Int64.ofInt x) = _
    rw [lz_v_s h3, e]
