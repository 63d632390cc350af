/-! tables and shapes: what closing gives; shapes in a world -/
def lr_tooFar (f : Nat → Int64) (n : Nat) : Prop := ∃ i, i < n ∧ ∃ t, t < n - i ∧ lr_far (lr_cell f n i (i + t))
def lr_okA (f : Nat → Int64) (n : Nat) : Prop := (∀ k, k < n → ¬ lr_oppNeg (lr_cl1 f n (k + 1)) n) ∧ ¬ lr_twNeg (lr_even (lr_cl1 f n n) n) n
def lr_clR (f : Nat → Int64) (n : Nat) : Nat → Int64 := lr_halves (lr_even (lr_cl1 f n n) n) n
theorem gb_t {r : Int32} {P : Prop} (h : (r = nI 1 ∧ P) ∨ (r = nI 0 ∧ ¬ P)) (c : r = 0) : ¬ P := by
  rcases h with ⟨h1, _⟩ | ⟨_, h⟩
  · rw [h1] at c; exact absurd c (by decide)
  · exact h
theorem gb_f {r : Int32} {P : Prop} (h : (r = nI 1 ∧ P) ∨ (r = nI 0 ∧ ¬ P)) (c : ¬ r = 0) : P := by
  rcases h with ⟨_, h⟩ | ⟨h1, _⟩
  · exact h
  · rw [h1] at c; exact absurd (by decide) c
theorem gb_n {r : Int32} {P : Prop} (h : (r = nI 1 ∧ P) ∨ (r = nI 0 ∧ ¬ P)) : r = 0 ∨ r = 1 := by
  rcases h with ⟨h1, _⟩ | ⟨h1, _⟩
  · exact Or.inr (h1.trans (by decide))
  · exact Or.inl (h1.trans (by decide))
def shAt (cJ : ClassId) (ws : va_W) (j : Nat) (a : Nat → Nat) (n : Nat) (K B : Nat → Int64) (E : Int32) : Prop := ws[j]? = some (a 0, .inr (1, [.int (nI n), .ref (a 1), .ref (a 3), .int E])) ∧ tbAt cJ ws (j + 1) (a 1) (a 2) n K ∧ tbAt cJ ws (j + 3) (a 3) (a 4) n B
theorem shAt.kept {cJ : ClassId} {ws w : va_W} {j n x y : Nat} {a : Nat → Nat} {K B : Nat → Int64} {E : Int32} (h : shAt cJ ws j a n K B E) (hf : gF x y ws w) (ho : j + 5 ≤ x ∨ y ≤ j) : shAt cJ w j a n K B E :=
  ⟨hf.at h.1 (by omega), h.2.1.kept hf (by omega), h.2.2.kept hf (by omega)⟩
def lr_all (K : Nat → Int64) (n : Nat) : Nat → Int64 := lr_fill K (n * n) lr_E
def lr_allB (B : Nat → Int64) (n : Nat) : Nat → Int64 := lr_opps (lr_fill B (n * n) lr_E) n 0
/-- the greatest that two terms are together -/
def lr_gr (B : Nat → Int64) (n : Nat) (E : Int32) (x y : Int32) : Int64 := if E = 0 then (if x = -y then 0 else lr_ofT B n x y) else -4611686018427387904
def lr_tm (x : Int32) (n : Nat) : Prop := lr_sm x ∧ (¬ x = 0 → lr_pl x < n)
theorem gz_n {x : Int32} (h : x = 0 ∨ x = 1) : narrow .boolean (.int x) = .int x := by rcases h with rfl | rfl <;> rfl
theorem gz_f {x : Int32} (h : x = 0 ∨ x = 1) : fits .boolean (.int x) = true := by rcases h with rfl | rfl <;> rfl
/-- what closing the kept rows does to a shape -/
def lr_clO (K B : Nat → Int64) (n : Nat) (E : Int32) (K1 B1 : Nat → Int64) (E1 : Int32) : Prop := (lr_okA (lr_copy K B (n * n)) n ∧ K1 = K ∧ B1 = lr_clR (lr_copy K B (n * n)) n ∧ E1 = E) ∨ (¬ lr_okA (lr_copy K B (n * n)) n ∧ K1 = lr_all K n ∧ (∃ B', B1 = lr_allB B' n) ∧ E1 = nI 1)
theorem lr_clO_E {K B K1 B1 : Nat → Int64} {n : Nat} {E E1 : Int32} (h : lr_clO K B n E K1 B1 E1) (hE : E = 0 ∨ E = 1) : E1 = 0 ∨ E1 = 1 := by
  rcases h with ⟨_, _, _, rfl⟩ | ⟨_, _, _, rfl⟩
  · exact hE
  · exact Or.inr (by decide)
def lr_addK (K : Nat → Int64) (n : Nat) (x y : Int32) (c : Int64) : Nat → Int64 := if x = 0 then lr_lower K n (lr_pl y) (lr_pl y) (2 * c) else if y = 0 then lr_lower K n (lr_pl x) (lr_pl x) (2 * c) else if x = y then lr_lower K n (lr_pl x) (lr_pl x) (2 * lr_fd c 2) else lr_lower K n (lr_pl x) (lr_pl y) c
def lr_addO (K B : Nat → Int64) (n : Nat) (E : Int32) (x y : Int32) (c : Int64) (K1 B1 : Nat → Int64) (E1 : Int32) : Prop :=
  (¬ E = 0 ∧ K1 = K ∧ B1 = B ∧ E1 = E) ∨ (E = 0 ∧ x = -y ∧ 0 ≤ c ∧ K1 = K ∧ B1 = B ∧ E1 = E) ∨ (E = 0 ∧ x = -y ∧ ¬ 0 ≤ c ∧ K1 = lr_all K n ∧ (∃ B', B1 = lr_allB B' n) ∧ E1 = nI 1) ∨ (E = 0 ∧ ¬ x = -y ∧ lr_clO (lr_addK K n x y c) B n E K1 B1 E1)
/-- the bounds are kept: in the kept rows all but opposite terms -/
def lr_kbK (K B : Nat → Int64) (n : Nat) : Nat → Int64 := lr_opps (lr_copy B K (n * n)) n lr_E
def lr_kbO (K B : Nat → Int64) (n : Nat) (E : Int32) (K1 : Nat → Int64) : Prop := (¬ E = 0 ∧ K1 = K) ∨ (E = 0 ∧ K1 = lr_kbK K B n)
theorem nI_0' : nI 0 = 0 := nI_0
theorem lr_clW {cJ : ClassId} {w : va_W} {j h g n : Nat} {f : Nat → Int64} {r : Int32} (hw : (r = nI 1 ∧ lr_okA f n ∧ tbAt cJ w j h g n (lr_clR f n)) ∨ (r = nI 0 ∧ ¬ lr_okA f n ∧ ∃ f1, tbAt cJ w j h g n f1)) : ∃ F, ((r = nI 1 ∧ lr_okA f n ∧ F = lr_clR f n) ∨ (r = nI 0 ∧ ¬ lr_okA f n)) ∧ tbAt cJ w j h g n F := by
  rcases hw with ⟨h1, h2, h3⟩ | ⟨h1, h2, f1, h3⟩
  · exact ⟨_, Or.inl ⟨h1, h2, rfl⟩, h3⟩
  · exact ⟨f1, Or.inr ⟨h1, h2⟩, h3⟩
theorem lr_clO1 {K B F : Nat → Int64} {n : Nat} {E r : Int32} (h : (r = nI 1 ∧ lr_okA (lr_copy K B (n * n)) n ∧ F = lr_clR (lr_copy K B (n * n)) n) ∨ (r = nI 0 ∧ ¬ lr_okA (lr_copy K B (n * n)) n)) (c : ¬ r = 0) : lr_clO K B n E K F E := by
  rcases h with ⟨_, h2, h3⟩ | ⟨h1, _⟩
  · exact Or.inl ⟨h2, rfl, h3, rfl⟩
  · rw [h1] at c; exact absurd (by decide) c
theorem lr_clO2 {K B F : Nat → Int64} {n : Nat} {E r : Int32} (h : (r = nI 1 ∧ lr_okA (lr_copy K B (n * n)) n ∧ F = lr_clR (lr_copy K B (n * n)) n) ∨ (r = nI 0 ∧ ¬ lr_okA (lr_copy K B (n * n)) n)) (c : r = 0) : lr_clO K B n E (lr_all K n) (lr_allB F n) (nI 1) := by
  rcases h with ⟨h1, _, _⟩ | ⟨_, h2⟩
  · rw [h1] at c; exact absurd c (by decide)
  · exact Or.inr ⟨h2, rfl, ⟨F, rfl⟩, rfl⟩
