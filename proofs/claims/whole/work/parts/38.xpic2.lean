/-! the point that sample tells; the needed rows -/
def lr_gbs (f nu : Nat → Int64) (n q : Nat) (j : Nat) : Int64 := lr_it (fun j g => lr_min g (lr_plus (f (q * n + j)) (-lr_num nu j))) j (lr_half f n q)
def lr_gbF (f nu : Nat → Int64) (n q : Nat) : Int64 := lr_gbs f nu n q (q - q % 2)
def lr_smp (f nu : Nat → Int64) (n x : Nat) : Int64 := if lr_gbF f nu n (lr_pl (-nI x)) = lr_E then (if lr_gbF f nu n (lr_pl (nI x)) = lr_E then 0 else lr_gbF f nu n (lr_pl (nI x))) else -lr_gbF f nu n (lr_pl (-nI x))
def lr_smpI (f nu : Nat → Int64) (n : Nat) (t : Nat) : Nat → Int64 := lr_it (fun t nu => vp_updL nu (1 + t - 1) (lr_smp f nu n (1 + t))) t nu
def lr_tell (ne : Nat → Int64) (m : Nat) (y z : Int32) (v : Int64) : Nat → Int64 := vp_updL (vp_updL (vp_updL ne (3 * m) y.toInt64) (3 * m + 1) z.toInt64) (3 * m + 2) v
def lr_run {α : Type} (S : Nat → α → α → Prop) : Nat → α → α → Prop
  | 0, a, b => b = a
  | k + 1, a, b => ∃ c, lr_run S k a c ∧ S k c b
def lr_leaO (L T : Nat → Int64) (n i j : Nat) (L2 : Nat → Int64) : Prop :=
  (L (i * n + j) = lr_E ∧ L2 = L) ∨ (¬ L (i * n + j) = lr_E ∧ (((lr_okA (lr_copy (lr_store L n i j lr_E) T (n * n)) n ∧ ¬ lr_clR (lr_copy (lr_store L n i j lr_E) T (n * n)) n (i * n + j) ≤ L (i * n + j)) ∧ L2 = lr_store (lr_store L n i j lr_E) n i j (L (i * n + j))) ∨ (¬ (lr_okA (lr_copy (lr_store L n i j lr_E) T (n * n)) n ∧ ¬ lr_clR (lr_copy (lr_store L n i j lr_E) T (n * n)) n (i * n + j) ≤ L (i * n + j)) ∧ L2 = lr_store L n i j lr_E)))
def lr_lea (n i j : Nat) (L L2 : Nat → Int64) : Prop := ∃ T, lr_leaO L T n i j L2
def lr_nx (i : Nat) : Nat := 2 * (i / 2) + 2
theorem lr_nx_or {i : Nat} (h : i < 10) : nI i ||| nI 1 = nI (lr_nx i - 1) := by
  rw [nx_or]
  have : ∀ j, j < 10 → j ||| 1 = lr_nx j - 1 := by decide
  rw [this i h]
theorem lr_nx_1 (i : Nat) : nI (lr_nx i - 1) + nI 1 = nI (lr_nx i) := by
  rw [nI_add]; congr 1
theorem gx_dec1 {a : Nat} (h : 1 ≤ a) : nI a + Int32.ofInt (-1) = nI (a - 1) := by
  have := pk_m1 (a - 1)
  rw [show a - 1 + 1 = a by omega] at this
  exact this
theorem gx_dec {n t : Nat} (h : t + 1 ≤ n) (hn : n < 1000) : nI (n - (t + 1)) + Int32.ofInt (-1) = nI n - nI (t + 1 + 1) := by
  rcases Nat.lt_or_ge (t + 1) n with h1 | h1
  · rw [gx_dec1 (by omega), pk_sub (by omega)]
    congr 1
  · have e : n = t + 1 := by omega
    subst e
    apply lr_i32
    rw [pk_sub_toInt (by omega) (by omega), Nat.sub_self]
    have : (nI 0 + Int32.ofInt (-1)).toInt = -1 := by decide
    omega
def lr_lvP (n : Nat) (t : Nat) (L L2 : Nat → Int64) : Prop := lr_run (fun t L L2 => lr_run (fun u L L2 => lr_lea n (n - (t + 1)) (n - 1 - u) L L2) (n - lr_nx (n - (t + 1))) L L2) t L L2
def lr_lvS (n : Nat) (t : Nat) (L L2 : Nat → Int64) : Prop := lr_run (fun t L L2 => lr_lea n (n - (t + 1)) (n - (t + 1)) L L2) t L L2
theorem gq_q {r : Int32} {P : Prop} {F G : Nat → Int64} (h : (r = nI 1 ∧ P ∧ F = G) ∨ (r = nI 0 ∧ ¬ P)) (c : ¬ r = 0) : F = G := by
  rcases h with ⟨_, _, h⟩ | ⟨h1, _⟩
  · exact h
  · rw [h1] at c; exact absurd (by decide) c
theorem lr_nx_le {i N : Nat} (h : i < 2 * N) : 2 ≤ lr_nx i ∧ lr_nx i ≤ 2 * N ∧ i < lr_nx i := by unfold lr_nx; omega
abbrev lr_P : Type := Nat × (Nat → Int64)
def lr_tl1 (f : Nat → Int64) (n i : Nat) (p : lr_P) : lr_P := if f (i * n + i) = lr_E then p else (p.1 + 1, lr_tell p.2 p.1 (lr_term i) (nI 0) (lr_half f n i))
def lr_tl2 (f : Nat → Int64) (n i j : Nat) (p : lr_P) : lr_P := if f (i * n + j) = lr_E then p else (p.1 + 1, lr_tell p.2 p.1 (lr_term i) (lr_term j) (f (i * n + j)))
def lr_t1 (f : Nat → Int64) (n : Nat) (i : Nat) (p : lr_P) : lr_P := lr_it (fun i p => lr_tl1 f n i p) i p
def lr_t2 (f : Nat → Int64) (n i : Nat) (t : Nat) (p : lr_P) : lr_P := lr_it (fun t p => lr_tl2 f n i (lr_nx i + t) p) t p
def lr_t3 (f : Nat → Int64) (n : Nat) (i : Nat) (p : lr_P) : lr_P := lr_it (fun i p => lr_t2 f n i (n - lr_nx i) p) i p
theorem lr_tl1_le {f : Nat → Int64} {n i : Nat} {p : lr_P} : (lr_tl1 f n i p).1 ≤ p.1 + 1 := by
  unfold lr_tl1; split <;> simp
theorem lr_tl2_le {f : Nat → Int64} {n i j : Nat} {p : lr_P} : (lr_tl2 f n i j p).1 ≤ p.1 + 1 := by
  unfold lr_tl2; split <;> simp
def lr_rem (N i : Nat) : Nat := lr_it (fun t a => a + (2 * N - lr_nx (2 * N - 1 - t))) (2 * N - i) 0
theorem lr_rem_s {N i : Nat} (h : i < 2 * N) : lr_rem N i = lr_rem N (i + 1) + (2 * N - lr_nx i) := by
  unfold lr_rem
  rw [show 2 * N - i = (2 * N - (i + 1)) + 1 by omega]
  show _ + (2 * N - lr_nx (2 * N - 1 - (2 * N - (i + 1)))) = _
  rw [show 2 * N - 1 - (2 * N - (i + 1)) = i by omega]
theorem lr_rem_0 {N : Nat} (h : N ≤ 5) : 2 * N + lr_rem N 0 ≤ 2 * (N * N) := by
  have : ∀ M, M ≤ 5 → 2 * M + lr_rem M 0 ≤ 2 * (M * M) := by decide
  exact this N h
theorem lr_nsq (N : Nat) : N ≤ N * N := Nat.le_mul_self N
/-- the needed rows of a shape, as they are told -/
def lr_ndO (B : Nat → Int64) (E : Int32) (n : Nat) (L ne : Nat → Int64) (m2 : Nat) (ne2 : Nat → Int64) : Prop :=
  (¬ E = 0 ∧ m2 = 1 ∧ ne2 = lr_tell ne 0 (nI 0) (nI 0) (-1)) ∨ (E = 0 ∧ ∃ L1 L2, lr_lvP n n (lr_copy B L (n * n)) L1 ∧ lr_lvS n n L1 L2 ∧ (m2, ne2) = lr_t3 L2 n n (lr_t1 L2 n n (0, ne)))
