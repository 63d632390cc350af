/-! shapes made of two others -/
def lr_symI (G : Nat → Nat → Int64) (n i t : Nat) (F : Nat → Int64) : Nat → Int64 := lr_it (fun t F => lr_store F n i (i + t) (G i (i + t))) t F
def lr_symO (G : Nat → Nat → Int64) (n i : Nat) (F : Nat → Int64) : Nat → Int64 := lr_it (fun i F => lr_symI G n i (n - i) F) i F
def lr_gM (B2 B3 : Nat → Int64) (n : Nat) : Nat → Nat → Int64 := fun i j => lr_min (B2 (i * n + j)) (B3 (i * n + j))
def lr_gJ (B2 B3 : Nat → Int64) (n : Nat) : Nat → Nat → Int64 := fun i j => lr_max (B2 (i * n + j)) (B3 (i * n + j))
def lr_gW (K2 B3 : Nat → Int64) (n : Nat) : Nat → Nat → Int64 := fun i j => if K2 (i * n + j) < B3 (i * n + j) then lr_E else K2 (i * n + j)
def lr_gN (K2 B2 B3 : Nat → Int64) (n : Nat) : Nat → Nat → Int64 := fun i j => if B2 (i * n + j) = lr_E then B3 (i * n + j) else K2 (i * n + j)
def lr_meetO (K B : Nat → Int64) (n : Nat) (B2 : Nat → Int64) (E2 : Int32) (B3 : Nat → Int64) (E3 : Int32) (K1 B1 : Nat → Int64) (E1 : Int32) : Prop :=
  ((¬ E2 = 0 ∨ ¬ E3 = 0) ∧ K1 = lr_all K n ∧ B1 = lr_allB B n ∧ E1 = nI 1) ∨ (E2 = 0 ∧ E3 = 0 ∧ ∃ K0, lr_clO (lr_symO (lr_gM B2 B3 n) n n (lr_all K n)) (lr_allB B n) n (nI 0) K0 B1 E1 ∧ lr_kbO K0 B1 n E1 K1)
def lr_likeO (K B : Nat → Int64) (n : Nat) (K2 B2 : Nat → Int64) (E2 : Int32) (K1 B1 : Nat → Int64) (E1 : Int32) : Prop := K1 = lr_copy K2 K (n * n) ∧ B1 = lr_copy B2 B (n * n) ∧ E1 = E2
def lr_joinO (K B : Nat → Int64) (n : Nat) (K2 B2 : Nat → Int64) (E2 : Int32) (K3 B3 : Nat → Int64) (E3 : Int32) (K1 B1 : Nat → Int64) (E1 : Int32) : Prop :=
  (¬ E2 = 0 ∧ ∃ K0, lr_likeO K B n K3 B3 E3 K0 B1 E1 ∧ lr_kbO K0 B1 n E1 K1) ∨ (E2 = 0 ∧ ¬ E3 = 0 ∧ ∃ K0, lr_likeO K B n K2 B2 E2 K0 B1 E1 ∧ lr_kbO K0 B1 n E1 K1) ∨ (E2 = 0 ∧ E3 = 0 ∧ B1 = lr_symO (lr_gJ B2 B3 n) n n (lr_allB B n) ∧ E1 = nI 0 ∧ lr_kbO (lr_all K n) B1 n E1 K1)
def lr_widO (K B : Nat → Int64) (n : Nat) (K2 B2 : Nat → Int64) (E2 : Int32) (K3 B3 : Nat → Int64) (E3 : Int32) (K1 B1 : Nat → Int64) (E1 : Int32) : Prop :=
  (¬ E2 = 0 ∧ lr_likeO K B n K3 B3 E3 K1 B1 E1) ∨ (E2 = 0 ∧ ¬ E3 = 0 ∧ lr_likeO K B n K2 B2 E2 K1 B1 E1) ∨ (E2 = 0 ∧ E3 = 0 ∧ lr_clO (lr_symO (lr_gW K2 B3 n) n n (lr_all K n)) (lr_allB B n) n (nI 0) K1 B1 E1)
def lr_narO (K B : Nat → Int64) (n : Nat) (K2 B2 : Nat → Int64) (E2 : Int32) (B3 : Nat → Int64) (E3 : Int32) (K1 B1 : Nat → Int64) (E1 : Int32) : Prop :=
  ((¬ E2 = 0 ∨ ¬ E3 = 0) ∧ K1 = lr_all K n ∧ B1 = lr_allB B n ∧ E1 = nI 1) ∨ (E2 = 0 ∧ E3 = 0 ∧ lr_clO (lr_symO (lr_gN K2 B2 B3 n) n n (lr_all K n)) (lr_allB B n) n (nI 0) K1 B1 E1)
/-- the term at a place; what an assignment makes of it -/
def lr_term (q : Nat) : Int32 := if q % 2 = 0 then nI (q / 2 + 1) else -nI (q / 2 + 1)
def lr_src (q : Nat) (x a : Int32) : Int32 := if lr_term q = x then a else if lr_term q = -x then -a else lr_term q
def lr_add (q : Nat) (x : Int32) (c : Int64) : Int64 := if lr_term q = x then c else if lr_term q = -x then -c else 0
def lr_gA (B2 : Nat → Int64) (E2 : Int32) (n : Nat) (x a : Int32) (c : Int64) : Nat → Nat → Int64 := fun i j => lr_plus (lr_gr B2 n E2 (lr_src i x a) (lr_src j x a)) (lr_add i x c + lr_add j x c)
def lr_asgO (K B : Nat → Int64) (n : Nat) (B2 : Nat → Int64) (E2 : Int32) (x a : Int32) (c : Int64) (K1 B1 : Nat → Int64) (E1 : Int32) : Prop :=
  (¬ E2 = 0 ∧ K1 = lr_all K n ∧ B1 = lr_allB B n ∧ E1 = nI 1) ∨ (E2 = 0 ∧ B1 = lr_symO (lr_gA B2 E2 n x a c) n n (lr_allB B n) ∧ E1 = nI 0 ∧ lr_kbO (lr_all K n) B1 n E1 K1)
def lr_free (B : Nat → Int64) (n : Nat) (x : Int32) (i : Nat) : Nat → Int64 := lr_it (fun i F => lr_store (lr_store F n (lr_pl x) i lr_E) n (lr_pl (-x)) i lr_E) i B
def lr_freeO (K B : Nat → Int64) (n : Nat) (K2 B2 : Nat → Int64) (E2 : Int32) (x : Int32) (K1 B1 : Nat → Int64) (E1 : Int32) : Prop :=
  (¬ E2 = 0 ∧ lr_likeO K B n K2 B2 E2 K1 B1 E1) ∨ (E2 = 0 ∧ B1 = lr_opps (lr_free (lr_copy B2 B (n * n)) n x n) n 0 ∧ E1 = E2 ∧ lr_kbO (lr_copy K2 K (n * n)) B1 n E1 K1)
theorem nI_small {a : Nat} (h : a ≤ 1000) : lr_sm (nI a) := by
  unfold lr_sm; rw [nI_toInt (by omega)]; omega
theorem neg_small {x : Int32} (h : lr_sm x) : lr_sm (-x) := by
  obtain ⟨a, b⟩ := h
  unfold lr_sm; rw [lr_negI (by omega)]; omega
theorem lr_pl_nI {a : Nat} (h0 : 0 < a) (h : a ≤ 1000) : lr_pl (nI a) = 2 * (a - 1) := by
  unfold lr_pl; rw [nI_toInt (by omega), if_pos (by omega)]; omega
theorem lr_pl_mI {a : Nat} (h0 : 0 < a) (h : a ≤ 1000) : lr_pl (-nI a) = 2 * (a - 1) + 1 := by
  have e : (-nI a).toInt = -(a : Int) := by rw [lr_negI (by rw [nI_toInt (by omega)]; omega), nI_toInt (by omega)]
  unfold lr_pl; rw [e, if_neg (by omega)]; omega
theorem nI_nz {a : Nat} (h0 : 0 < a) (h : a ≤ 1000) : ¬ nI a = 0 := nI_ne0 h0 (by omega)
theorem mI_nz {a : Nat} (h0 : 0 < a) (h : a ≤ 1000) : ¬ -nI a = 0 := by
  intro q
  have e : (-nI a).toInt = -(a : Int) := by rw [lr_negI (by rw [nI_toInt (by omega)]; omega), nI_toInt (by omega)]
  rw [q] at e
  have : (0 : Int32).toInt = 0 := by decide
  omega
theorem lr_term_tm {q n : Nat} (h : q < n) (hn : n ≤ 10) : lr_tm (lr_term q) n := by
  unfold lr_term lr_tm
  split
  · exact ⟨nI_small (by omega), fun _ => by rw [lr_pl_nI (by omega) (by omega)]; omega⟩
  · exact ⟨neg_small (nI_small (by omega)), fun _ => by rw [lr_pl_mI (by omega) (by omega)]; omega⟩
theorem lr_negneg (x : Int32) : - -x = x := by simp
theorem lr_tm_neg {x : Int32} {n : Nat} (he : n % 2 = 0) (h : lr_tm x n) : lr_tm (-x) n := by
  obtain ⟨h1, h2⟩ := h
  refine ⟨neg_small h1, fun hz => ?_⟩
  have hx : ¬ x = 0 := fun q => hz (by rw [q]; decide)
  have h3 := h2 hx
  obtain ⟨a, b⟩ := h1
  have hi : x.toInt ≠ 0 := fun q => hx (lr_i32 (by rw [q]; decide))
  have e : (-x).toInt = -x.toInt := lr_negI (by omega)
  unfold lr_pl at h3 ⊢
  rw [e]
  by_cases hp : 0 < x.toInt
  · rw [if_pos hp] at h3
    rw [if_neg (by omega)]; omega
  · rw [if_neg hp] at h3
    rw [if_pos (by omega)]; omega
theorem lr_src_tm {q n : Nat} {x a : Int32} (h : q < n) (hn : n ≤ 10) (he : n % 2 = 0) (ha : lr_tm a n) : lr_tm (lr_src q x a) n := by
  unfold lr_src
  split
  · exact ha
  · split
    · exact lr_tm_neg he ha
    · exact lr_term_tm h hn
