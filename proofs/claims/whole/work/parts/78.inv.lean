/-! THE INVARIANT of class and reference -/
def lz_hv (i j : Nat) (z : Option Int) : Option Int := if i = j then lr_hf z else z
def lz_e2 (m : Nat) (Z : lr_M) : Prop := ∀ i, i < m → ∀ x, Z i i = some x → x % 2 = 0
def lz_nf (n : Nat) (Z : lr_M) : Prop := ∀ i, i < n → ∀ j, j < n → lz_b (if i = j then 2000000000000000 else 1000000000000000) (Z i j)
def lz_gd (n : Nat) (Z : lr_M) : Prop := ∀ i j, ¬ (i < n ∧ j < n) → Z i j = none
def iv_K (N : Nat) (Z : lr_M) : Prop := lr_Sym (2 * N) Z ∧ lz_B 2000000000000000 Z ∧ lz_e2 (2 * N) Z ∧ (∀ i, i < 2 * N → Z i (lr_op i) = none) ∧ lz_gd (2 * N) Z
def iv_sh (N : Nat) (Z W : lr_M) (E : Int32) : Prop := iv_K N Z ∧ ((E = 0 ∧ lr_Is N (lz_O (2 * N) (some 0) Z) W ∧ lz_nf (2 * N) W) ∨ (E = 1 ∧ Z = lz_Z))
def iv_rr (Z : lr_M) (R : Nat → Int64) (k : Nat) : Prop := ∀ i, i < 10 → ∀ j, j < 10 → lz_v (R (100 * k + (10 * i + j))) = lz_hv i j (Z i j)
def iv_A (N : Nat) (K B : Nat → Nat → Int64) (E : Nat → Int32) (R : Nat → Int64) (Em : Nat → Int32) : Prop := ∀ k, k < 8 → iv_sh N (lz_T (2 * N) (K k)) (lz_T (2 * N) (B k)) (E k) ∧ iv_rr (lz_T (2 * N) (K k)) R k ∧ Em k = E k
def iv_ot (R R1 : Nat → Int64) (k : Nat) : Prop := ∀ q, q ≠ k → ∀ c, c < 100 → R1 (100 * q + c) = R (100 * q + c)
theorem lz_T_gd {n : Nat} {f : Nat → Int64} : lz_gd n (lz_T n f) := fun _ _ h => lz_T_out h
theorem lz_op_iff {i j : Nat} : j = lr_op i ↔ i = lr_op j := ⟨fun h => by rw [h, lr_op_op], fun h => by rw [h, lr_op_op]⟩
theorem lz_O_sym {n : Nat} {c : Option Int} {Z : lr_M} (h : lr_Sym n Z) : lr_Sym n (lz_O n c Z) := fun i hi j hj => by
  unfold lz_O
  by_cases q : j = lr_op i
  · rw [if_pos ⟨hi, q⟩, if_pos ⟨hj, lz_op_iff.mp q⟩]
  · rw [if_neg (fun w => q w.2), if_neg (fun w => q (lz_op_iff.mp w.2))]; exact h i hi j hj
theorem lz_O_dg {n i : Nat} {c : Option Int} {Z : lr_M} : lz_O n c Z i i = Z i i := if_neg (fun w => lr_op_ne i w.2.symm)
theorem lz_O_O {n : Nat} {c d : Option Int} {Z : lr_M} : lz_O n c (lz_O n d Z) = lz_O n c Z := by
  funext i j; unfold lz_O
  by_cases q : i < n ∧ j = lr_op i
  · rw [if_pos q, if_pos q]
  · rw [if_neg q, if_neg q, if_neg q]
theorem lz_O_id {n : Nat} {c : Option Int} {Z : lr_M} (h : ∀ i, i < n → Z i (lr_op i) = c) : lz_O n c Z = Z := by
  funext i j; unfold lz_O
  by_cases q : i < n ∧ j = lr_op i
  · rw [if_pos q, q.2, h i q.1]
  · rw [if_neg q]
theorem lz_O_gd {n : Nat} {c : Option Int} {Z : lr_M} (he : n % 2 = 0) (h : lz_gd n Z) : lz_gd n (lz_O n c Z) := fun i j q => by
  unfold lz_O
  rw [if_neg (fun w => q ⟨w.1, by rw [w.2]; exact lr_op_lt' he w.1⟩)]; exact h i j q
theorem lz_nf_B {n : Nat} {Z : lr_M} (h : lz_nf n Z) (hg : lz_gd n Z) : lz_B 2000000000000000 Z := fun i j => by
  by_cases q : i < n ∧ j < n
  · have := h i q.1 j q.2
    split at this
    · exact this
    · exact lz_b_w this (by omega)
  · rw [hg i j q]; exact lz_b_n
theorem lz_dbl {M : Int} {c : Int64} (hc : lz_b M (lz_v c)) (hm : M + M < 4611686018427387904) : lz_v (if c = lr_E then c else 2 * c) = lr_db (lz_v c) := by
  by_cases h : c = lr_E
  · rw [if_pos h, h, lz_v_E]; rfl
  · have a := hc _ (lz_v_s h)
    have e2 : (2 : Int64).toInt = 2 := by decide
    have e : (2 * c).toInt = 2 * c.toInt := by rw [lz_mul (by rw [e2]; omega) (by rw [e2]; omega), e2]
    have h3 : ¬ 2 * c = lr_E := fun q => by rw [q, lz_ET] at e; omega
    rw [if_neg h, lz_v_s h3, lz_v_s h, e]; rfl
theorem lz_hfh {M : Int} {c : Int64} (hc : lz_b M (lz_v c)) (hm : M < 4611686018427387904) (he : ∀ x, lz_v c = some x → x % 2 = 0) : lz_v (if c = lr_E then c else c / 2) = lr_hf (lz_v c) := by
  rw [← lz_half hc hm he]
  by_cases h : c = lr_E
  · rw [if_pos h, if_pos h, h]
  · rw [if_neg h, if_neg h]
theorem lz_b_half {M : Int} {z : Option Int} (h : lz_b (2 * M) z) : lz_b (M + 1) (lr_hf z) := by
  cases z with
  | none => exact lz_b_n
  | some x => have := h x rfl; exact lz_b_s.mpr (by omega)
theorem lz_dbhf {z : Option Int} (h : ∀ x, z = some x → x % 2 = 0) : lr_db (lr_hf z) = z := by
  cases z with
  | none => rfl
  | some x => have := h x rfl; simp [lr_hf, lr_db]; omega
theorem iv_mx {N k : Nat} {Z : lr_M} {R : Nat → Int64} (hN : N ≤ 5) (h : iv_K N Z) (hr : iv_rr Z R k) : lz_X (2 * N) (lm_mx R k) = Z := by
  funext i j
  by_cases q : i < 2 * N ∧ j < 2 * N
  · rw [lz_X_in q.1 q.2]
    have := hr i (by omega) j (by omega)
    unfold lm_mx lm_db
    unfold lz_hv at this
    by_cases w : i = j
    · rw [if_pos w] at this ⊢
      rw [lz_dbl (M := 1000000000000001) (by rw [this]; exact lz_b_w (lz_b_half (M := 1000000000000000) (h.2.1 i j)) (by omega)) (by omega), this]
      subst w
      exact lz_dbhf (h.2.2.1 i q.1)
    · rw [if_neg w] at this ⊢; exact this
  · rw [lz_X_out q, h.2.2.2.2 i j q]
theorem iv_K.OS {N : Nat} {Z : lr_M} (h : iv_K N Z) : lr_Sym (2 * N) (lz_O (2 * N) (some 0) Z) := lz_O_sym h.1
theorem iv_K.OB {N : Nat} {Z : lr_M} (h : iv_K N Z) : lz_B 2000000000000000 (lz_O (2 * N) (some 0) Z) := lz_OB h.2.1 (by omega)
theorem lz_0E : (0 : Int64) ≤ lr_E := by decide
/-- where the class's closing gives a matrix, or none, so does the reference's -/
theorem iv_R1 {N : Nat} {X : Nat → Nat → Int64} {B : Nat → Int64} {Z : lr_M} {M : Int} (hN : N ≤ 5) (hX : lz_O (2 * N) (some 0) (lz_X (2 * N) X) = Z) (hs : lr_Sym (2 * N) Z) (hb : lz_B 10000000000000000 Z) (hop : ∀ i, i < 2 * N → 0 ≤ X i (lr_op i)) (hI : lr_Is N Z (lz_T (2 * N) B)) (hB : lz_B M (lz_T (2 * N) B)) (h0 : 0 ≤ M) (hM : M + M < 4611686018427387904) : lm_Cl N X (some (fun i j => B (i * (2 * N) + j))) := by
  subst hX
  exact lz_RT1 (Y := fun i j => B (i * (2 * N) + j)) hN hs hb hop hI hB h0 hM
theorem iv_R0 {N : Nat} {X : Nat → Nat → Int64} {Z : lr_M} (hN : N ≤ 5) (hX : lz_O (2 * N) (some 0) (lz_X (2 * N) X) = Z) (hs : lr_Sym (2 * N) Z) (hb : lz_B 10000000000000000 Z) (hop : ∀ i, i < 2 * N → 0 ≤ X i (lr_op i)) (hI : lr_No N Z) : lm_Cl N X none := by
  subst hX
  exact lz_RT0 hN hs hb hop hI
theorem iv_op0 {n i : Nat} {X : Nat → Nat → Int64} {Z : lr_M} (h : lz_X n X = Z) (hi : i < n) (ho : lr_op i < n) (hz : Z i (lr_op i) = none ∨ Z i (lr_op i) = some 0) : 0 ≤ X i (lr_op i) := by
  rw [← h, lz_X_in hi ho] at hz
  rcases hz with w | w
  · rw [lz_v_n.mp w]; exact lz_0E
  · rw [← lz_v0] at w; rw [lz_v_inj w]; exact Int64.le_refl _
theorem iv_F {N : Nat} {K B : Nat → Nat → Int64} {E Em : Nat → Int32} {R : Nat → Int64} (hN : N ≤ 5) (h : iv_A N K B E R Em) : lm_F N R Em (fun k i j => B k (i * (2 * N) + j)) := fun k hk he => by
  obtain ⟨⟨h1, h2⟩, h3, h4⟩ := h k hk
  rw [h4] at he
  rcases h2 with ⟨_, h5, h6⟩ | ⟨h5, _⟩
  · have hm := iv_mx hN h1 h3
    refine iv_R1 (M := 2000000000000000) hN (by rw [hm]) h1.OS (fun i j => lz_b_w (h1.OB i j) (by omega)) (fun i hi => iv_op0 hm hi (lr_op_lt hi) (Or.inl (h1.2.2.2.1 i hi))) h5 (lz_nf_B h6 lz_T_gd) (by omega) (by omega)
  · rw [h5] at he; exact absurd he (by decide)
/-- beyond 10^15 -/
theorem iv_tf {n : Nat} {B : Nat → Int64} {M : Int} (hs : lr_Sym n (lz_T n B)) (he : lz_e2 n (lz_T n B)) (hb : lz_B M (lz_T n B)) (hm : M < 4611686018427387904) : lr_tooFar B n ↔ ¬ lz_nf n (lz_T n B) := by
  have key : ∀ i, i < n → ∀ j, j < n → (lr_far (lr_cell B n i j) ↔ ¬ lz_b (if i = j then 2000000000000000 else 1000000000000000) (lz_T n B i j)) := fun i hi j hj => by
    have hb := hb i j
    have he := he i hi
    unfold lr_far lr_cell
    rw [lz_T_in hi hj] at hb ⊢
    by_cases w : i = j
    · subst w
      rw [lz_T_in hi hi] at he
      rw [if_pos rfl, if_pos rfl]
      unfold lr_half
      by_cases q : B (i * n + i) = lr_E
      · rw [if_pos q, q, lz_v_E]
        simp [lz_b]
      · have e := hb _ (lz_v_s q)
        have e1 := he _ (lz_v_s q)
        have d : (B (i * n + i) / 2).toInt = (B (i * n + i)).toInt / 2 := by rw [lz_div (by omega)]; split <;> omega
        have d2 : B (i * n + i) / 2 ≠ lr_E := fun w => by rw [w, lz_ET] at d; omega
        rw [if_neg q, lz_v_s q, lz_b_s, Int64.lt_iff_toInt_lt, Int64.lt_iff_toInt_lt, d, show (1000000000000000 : Int64).toInt = 1000000000000000 from by decide, show (-1000000000000000 : Int64).toInt = -1000000000000000 from by decide]
        constructor
        · intro w; omega
        · intro w; exact ⟨d2, by omega⟩
    · rw [if_neg w, if_neg w]
      by_cases q : B (i * n + j) = lr_E
      · rw [q, lz_v_E]; simp [lz_b]
      · rw [lz_v_s q, lz_b_s, Int64.lt_iff_toInt_lt, Int64.lt_iff_toInt_lt, show (1000000000000000 : Int64).toInt = 1000000000000000 from by decide, show (-1000000000000000 : Int64).toInt = -1000000000000000 from by decide]
        constructor
        · intro w; omega
        · intro w; exact ⟨q, by omega⟩
  constructor
  · rintro ⟨i, hi, t, ht, h⟩ hn
    exact (key i hi (i + t) (by omega)).mp h (hn i hi _ (by omega))
  · intro h
    apply Classical.byContradiction
    intro hno
    apply h
    intro i hi j hj
    apply Classical.byContradiction
    intro w
    rcases Nat.le_total i j with q | q
    · refine hno ⟨i, hi, j - i, by omega, ?_⟩
      rw [show i + (j - i) = j by omega]
      exact (key i hi j hj).mpr w
    · refine hno ⟨j, hj, i - j, by omega, ?_⟩
      rw [show j + (i - j) = i by omega]
      refine (key j hj i hi).mpr ?_
      rw [hs j hj i hi]
      by_cases e : i = j
      · subst e; exact w
      · rw [if_neg (fun z => e z.symm)]; rw [if_neg e] at w; exact w
theorem iv_tm {N : Nat} {Y : Nat → Nat → Int64} {M : Int} (ho : ∀ i, i < 2 * N → lz_X (2 * N) Y i (lr_op i) = some 0) (he : lz_e2 (2 * N) (lz_X (2 * N) Y)) (hb : lz_B M (lz_X (2 * N) Y)) (hm : M < 4611686018427387904) : lm_farM N Y ↔ ¬ lz_nf (2 * N) (lz_X (2 * N) Y) := by
  have key : ∀ i, i < 2 * N → ∀ j, j < 2 * N → (lm_fr i j (Y i j) ↔ ¬ lz_b (if i = j then 2000000000000000 else 1000000000000000) (lz_X (2 * N) Y i j)) := fun i hi j hj => by
    have hb := hb i j
    have he := he i hi
    unfold lm_fr
    by_cases w2 : j = lr_op i
    · subst w2
      rw [ho i hi, if_neg (fun w => lr_op_ne i w.symm), lz_b_s]
      constructor
      · rintro ⟨w, _⟩; exact absurd rfl w
      · intro w; omega
    rw [lz_X_in hi hj] at hb ⊢
    by_cases q : Y i j = lr_E
    · rw [q, lz_v_E]; simp [lz_b]
    by_cases w : i = j
    · subst w
      rw [lz_X_in hi hi] at he
      rw [if_pos rfl, if_pos rfl]
      have e := hb _ (lz_v_s q)
      have e1 := he _ (lz_v_s q)
      have d : (Y i i / 2).toInt = (Y i i).toInt / 2 := by rw [lz_div (by omega)]; split <;> omega
      rw [lz_v_s q, lz_b_s, Int64.lt_iff_toInt_lt, Int64.lt_iff_toInt_lt, d, show (1000000000000000 : Int64).toInt = 1000000000000000 from by decide, show (-1000000000000000 : Int64).toInt = -1000000000000000 from by decide]
      constructor
      · intro w; omega
      · intro w; exact ⟨w2, q, by omega⟩
    · rw [if_neg w, if_neg w, lz_v_s q, lz_b_s, Int64.lt_iff_toInt_lt, Int64.lt_iff_toInt_lt, show (1000000000000000 : Int64).toInt = 1000000000000000 from by decide, show (-1000000000000000 : Int64).toInt = -1000000000000000 from by decide]
      constructor
      · intro w; omega
      · intro w; exact ⟨w2, q, by omega⟩
  constructor
  · rintro ⟨i, hi, j, hj, h⟩ hn
    exact (key i hi j hj).mp h (hn i hi j hj)
  · intro h
    apply Classical.byContradiction
    intro hno
    apply h
    intro i hi j hj
    apply Classical.byContradiction
    intro w
    exact hno ⟨i, hi, j, hj, (key i hi j hj).mpr w⟩
theorem lr_Cl.e2 {N : Nat} {W : lr_M} (h : lr_Cl N W) : lz_e2 (2 * N) W := fun i hi x hx => h.2.2.2.1 i hi x hx
/-- one shape is written -/
theorem iv_up {N k : Nat} {K B : Nat → Nat → Int64} {E Em Em1 : Nat → Int32} {R R1 : Nat → Int64} {K2 B2 : Nat → Int64} {E2 : Int32} (h : iv_A N K B E R Em) (hs : iv_sh N (lz_T (2 * N) K2) (lz_T (2 * N) B2) E2) (hr : iv_rr (lz_T (2 * N) K2) R1 k) (ho : iv_ot R R1 k) (he : ∀ q, q ≠ k → Em1 q = Em q) (he2 : Em1 k = E2) : iv_A N (va_up K k K2) (va_up B k B2) (va_up E k E2) R1 Em1 := fun q hq => by
  by_cases e : q = k
  · subst e
    rw [va_up_self, va_up_self, va_up_self]
    exact ⟨hs, hr, he2⟩
  · rw [va_up_ne _ _ e, va_up_ne _ _ e, va_up_ne _ _ e]
    obtain ⟨a, b, c⟩ := h q hq
    refine ⟨a, fun i hi j hj => ?_, by rw [he q e]; exact c⟩
    rw [ho q e _ (by omega)]; exact b i hi j hj
theorem iv_same {N k : Nat} {K B : Nat → Nat → Int64} {E Em : Nat → Int32} {R : Nat → Int64} {K2 B2 : Nat → Int64} {E2 : Int32} (h : iv_A N K B E R Em) (hK : lz_T (2 * N) K2 = lz_T (2 * N) (K k)) (hB : lz_T (2 * N) B2 = lz_T (2 * N) (B k)) (hE : E2 = E k) : iv_A N (va_up K k K2) (va_up B k B2) (va_up E k E2) R Em := fun q hq => by
  by_cases e : q = k
  · subst e
    rw [va_up_self, va_up_self, va_up_self, hK, hB, hE]
    exact h q hq
  · rw [va_up_ne _ _ e, va_up_ne _ _ e, va_up_ne _ _ e]
    exact h q hq
theorem iv_Z_K {N : Nat} : iv_K N lz_Z := ⟨fun _ _ _ _ => rfl, fun _ _ => lz_b_n, fun _ _ _ h => absurd h (by simp [lz_Z]), fun _ _ => rfl, fun _ _ _ => rfl⟩
theorem iv_empty {N : Nat} {W : lr_M} : iv_sh N lz_Z W 1 := ⟨iv_Z_K, Or.inr ⟨rfl, rfl⟩⟩
theorem iv_rr_none {R : Nat → Int64} {k : Nat} : iv_rr lz_Z (lm_none R k) k := fun i hi j hj => by
  rw [lm_none_at (by omega), if_pos rfl, lz_v_E]
  unfold lz_hv lz_Z; split <;> rfl
theorem iv_ot_none {R : Nat → Int64} {k : Nat} : iv_ot R (lm_none R k) k := fun q hq c hc => by rw [lm_none_at hc, if_neg hq]
theorem iv_ot.trans {R R1 R2 : Nat → Int64} {k : Nat} (h : iv_ot R R1 k) (g : iv_ot R1 R2 k) : iv_ot R R2 k := fun q hq c hc => (g q hq c hc).trans (h q hq c hc)
theorem iv_ot.rf {R : Nat → Int64} {k : Nat} : iv_ot R R k := fun _ _ _ _ => rfl
/-- the class closes kept rows -/
theorem iv_clo {N : Nat} {K B K1 B1 : Nat → Int64} {E1 : Int32} (hN : N ≤ 5) (hs : lr_Sym (2 * N) (lz_O (2 * N) (some 0) (lz_T (2 * N) K))) (hb : lz_B 2000000000000000 (lz_O (2 * N) (some 0) (lz_T (2 * N) K))) (hc : lr_clO K B (2 * N) (nI 0) K1 B1 E1) : (E1 = 0 ∧ K1 = K ∧ lr_Is N (lz_O (2 * N) (some 0) (lz_T (2 * N) K)) (lz_T (2 * N) B1) ∧ lz_B 2100000000000000000 (lz_T (2 * N) B1)) ∨ (E1 = 1 ∧ lz_T (2 * N) K1 = lz_Z ∧ lr_No N (lz_O (2 * N) (some 0) (lz_T (2 * N) K))) := by
  have ct := lz_CT (N := N) (f := lr_copy K B (2 * N * (2 * N))) hN (X := lz_O (2 * N) (some 0) (lz_T (2 * N) K)) (by rw [lz_T_copy]) hs hb
  rcases hc with ⟨h1, h2, h3, h4⟩ | ⟨h1, h2, h3, h4⟩
  · rcases ct with ⟨_, c1, c2⟩ | ⟨c, _⟩
    · left; rw [h3]; exact ⟨h4.trans nI_0', h2, c1, c2⟩
    · exact absurd h1 c
  · rcases ct with ⟨c, _⟩ | ⟨_, c⟩
    · exact absurd c h1
    · right; rw [h2]; exact ⟨h4.trans (by decide), lz_T_all, c⟩
/-- what the reference's closing then gives -/
def iv_mat (N : Nat) (B : Nat → Int64) : Nat → Nat → Int64 := fun i j => B (i * (2 * N) + j)
theorem iv_o {N : Nat} {X : Nat → Nat → Int64} {B1 : Nat → Int64} {E1 : Int32} {Z : lr_M} {P Q : Prop} (hN : N ≤ 5) (hX : lz_O (2 * N) (some 0) (lz_X (2 * N) X) = Z) (hop : ∀ i, i < 2 * N → 0 ≤ X i (lr_op i)) (hs : lr_Sym (2 * N) Z) (hb : lz_B 2000000000000000 Z) (h : (E1 = 0 ∧ P ∧ lr_Is N Z (lz_T (2 * N) B1) ∧ lz_B 2100000000000000000 (lz_T (2 * N) B1)) ∨ (E1 = 1 ∧ Q ∧ lr_No N Z)) : ∃ o, lm_Cl N X o ∧ ((E1 = 0 ∧ o = some (iv_mat N B1)) ∨ (E1 = 1 ∧ o = none)) := by
  have hb' : lz_B 10000000000000000 Z := fun i j => lz_b_w (hb i j) (by omega)
  rcases h with ⟨h1, _, h2, h3⟩ | ⟨h1, _, h2⟩
  · exact ⟨_, iv_R1 hN hX hs hb' hop h2 h3 (by omega) (by omega), Or.inl ⟨h1, rfl⟩⟩
  · exact ⟨_, iv_R0 hN hX hs hb' hop h2, Or.inr ⟨h1, rfl⟩⟩
theorem iv_mat_ag {N : Nat} {B F : Nat → Int64} (h : lm_ag N F (iv_mat N B)) : lz_D (2 * N) F = lz_T (2 * N) B := lz_X_ag h
theorem iv_far {N : Nat} {B : Nat → Int64} {M : Int} (hC : lr_Cl N (lz_T (2 * N) B)) (hb : lz_B M (lz_T (2 * N) B)) (hm : M < 4611686018427387904) : (lm_farM N (iv_mat N B) ↔ ¬ lz_nf (2 * N) (lz_T (2 * N) B)) ∧ (lr_tooFar B (2 * N) ↔ ¬ lz_nf (2 * N) (lz_T (2 * N) B)) :=
  ⟨iv_tm (Y := iv_mat N B) hC.2.1 hC.e2 hb hm, iv_tf hC.1 hC.e2 hb hm⟩
theorem iv_8 {a b : Nat} (ha : a < 8) (hb : b < 8) (h : nI a = nI b) : a = b := (nI_eq (by omega) (by omega)).mp h
theorem iv_kcE {N u : Nat} {R : Nat → Int64} {Em : Nat → Int32} {R1 : Nat → Int64} {E1 : Nat → Int32} {r : Int32} {F : Nat → Int64} (h : lm_kcO (nI 0) F N u R Em R1 E1 r) : r = nI 0 ∧ iv_rr lz_Z R1 u ∧ iv_ot R R1 u ∧ (∀ q, q ≠ u → E1 q = Em q) ∧ E1 u = 1 := by
  rcases h with ⟨_, h2, h3, h4⟩ | ⟨h1, _⟩
  · rw [h3, h4]
    exact ⟨h2, iv_rr_none, iv_ot_none, fun q hq => by rw [lm_upd_n hq, lm_upd_n hq], by rw [lm_upd_k]; decide⟩
  · exact absurd nI_0' h1
theorem iv_kc1 {N u : Nat} {R : Nat → Int64} {Em : Nat → Int32} {R1 : Nat → Int64} {E1 : Nat → Int32} {r z : Int32} {F : Nat → Int64} {W : lr_M} {M : Int} (hN : N ≤ 5) (hF : lz_D (2 * N) F = W) (he : lz_e2 (2 * N) W) (hb : lz_B M W) (hM : M < 4611686018427387904) (hz : ¬ z = 0) (h : lm_kcO z F N u R Em R1 E1 r) : r = nI 1 ∧ iv_rr (lz_O (2 * N) none W) R1 u ∧ iv_ot R R1 u ∧ (∀ q, q ≠ u → E1 q = Em q) ∧ E1 u = 0 := by
  rcases h with ⟨h1, _⟩ | ⟨_, h2, h3, h4⟩
  · exact absurd h1 hz
  · rw [h3, h4]
    refine ⟨h2, fun i hi j hj => ?_, fun q hq c hc => ?_, fun q hq => by rw [lm_upd_n hq, lm_upd_n hq], by rw [lm_upd_k]; decide⟩
    · rw [lm_kc_at (by omega) (by omega) hi hj, lm_none_at (by omega), if_pos rfl]
      by_cases q : i < 2 * N ∧ j < 2 * N
      · by_cases w : j = lr_op i
        · rw [if_neg (fun z => z.2.2.2 w), lz_v_E]
          unfold lz_hv lz_O
          rw [if_neg (fun e => lr_op_ne i (by omega)), if_pos ⟨q.1, w⟩]
        · rw [if_pos ⟨rfl, q.1, q.2, w⟩]
          have hO : lz_O (2 * N) none W i j = W i j := if_neg (fun e => w e.2)
          rw [hO]
          unfold lz_hv lm_hv
          by_cases e : i = j
          · subst e
            rw [if_pos rfl, if_pos rfl]
            have b := hb i i
            have e1 := he i q.1
            rw [← hF, lz_D_in q.1 q.1] at b e1
            rw [lz_hfh b hM e1, ← hF, lz_D_in q.1 q.1]
          · rw [if_neg e, if_neg e, ← hF, lz_D_in q.1 q.2]
      · rw [if_neg (fun z => q ⟨z.2.1, z.2.2.1⟩), lz_v_E]
        have : lz_O (2 * N) none W i j = none := by
          unfold lz_O
          split
          · rfl
          · rw [← hF]; exact lz_D_out q
        rw [this]; unfold lz_hv; split <;> rfl
    · have ⟨i, j, hi, hj, e⟩ : ∃ i j, i < 10 ∧ j < 10 ∧ c = 10 * i + j := ⟨c / 10, c % 10, by omega, by omega, by omega⟩
      subst e
      rw [lm_kc_at (by omega) (by omega) hi hj, if_neg (fun z => hq z.1), lm_none_at (by omega), if_neg hq]
/-- the made shape is taken over -/
theorem iv_tk {N : Nat} {Km Bm K B K1 B1 : Nat → Int64} {Em E1 r : Int32} (h : lr_tkO (2 * N) Km Bm Em K B K1 B1 E1 r) : lz_T (2 * N) K1 = lz_T (2 * N) Km ∧ lz_T (2 * N) B1 = lz_T (2 * N) Bm ∧ E1 = Em ∧ (Em = 0 → ¬ lr_tooFar Bm (2 * N) ∧ r = nI 1) ∧ (¬ Em = 0 → r = nI 0) := by
  obtain ⟨h1, ⟨h2, h3, h4⟩, h5⟩ := h
  rw [h2, h3]
  refine ⟨lz_T_copy, lz_T_copy, h4, fun q => ⟨h1.resolve_left (fun w => w q), ?_⟩, fun q => ?_⟩
  · rcases h5 with h5 | h5
    · exact h5.2
    · exact absurd q h5.1
  · rcases h5 with h5 | h5
    · exact absurd h5.1 q
    · exact h5.2
/-- what is closed closes to itself -/
theorem lr_Is.self {N : Nat} {W : lr_M} (h : lr_Cl N W) : lr_Is N W W := ⟨h, fun _ _ _ _ => lr_le_refl _, fun _ _ h => h⟩
theorem iv_K_of {N : Nat} {W : lr_M} (h : lr_Cl N W) (hn : lz_nf (2 * N) W) (hg : lz_gd (2 * N) W) : iv_K N (lz_O (2 * N) none W) := by
  refine ⟨lz_O_sym h.1, fun i j => ?_, fun i hi x hx => ?_, fun i hi => if_pos ⟨hi, rfl⟩, lz_O_gd (by omega) hg⟩
  · unfold lz_O; split
    · exact lz_b_n
    · exact lz_nf_B hn hg i j
  · rw [lz_O_dg] at hx; exact h.e2 i hi x hx
/-- bounds that are kept -/
theorem iv_keep {N : Nat} {W : lr_M} (h : lr_Cl N W) (hn : lz_nf (2 * N) W) (hg : lz_gd (2 * N) W) : iv_sh N (lz_O (2 * N) none W) W 0 := by
  refine ⟨iv_K_of h hn hg, Or.inl ⟨rfl, ?_, hn⟩⟩
  rw [lz_O_O, lz_O_id h.2.1]; exact lr_Is.self h
