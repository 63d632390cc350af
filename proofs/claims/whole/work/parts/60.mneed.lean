/-! the reference's needed rows -/
abbrev lm_N := Nat × (Nat → Int32) × (Nat → Int32) × (Nat → Int64) × (Nat → Int32)
def lm_ls1 (v : Int64) (x y : Int32) (S : lm_N) : lm_N := if v = lr_E then S else (S.1 + 1, upd S.2.1 S.1 x, upd S.2.2.1 S.1 y, vp_updL S.2.2.2.1 S.1 v, upd S.2.2.2.2 S.1 (nI 1))
def lm_t1 (X : Nat → Nat → Int64) (i : Nat) (S : lm_N) : lm_N := lr_it (fun i S => lm_ls1 (lm_bd X (lr_term i) (nI 0)) (lr_term i) (nI 0) S) i S
def lm_t2 (X : Nat → Nat → Int64) (i t : Nat) (S : lm_N) : lm_N := lr_it (fun t S => lm_ls1 (lm_bd X (lr_term i) (lr_term (lr_nx i + t))) (lr_term i) (lr_term (lr_nx i + t)) S) t S
def lm_t3 (X : Nat → Nat → Int64) (n i : Nat) (S : lm_N) : lm_N := lr_it (fun i S => lm_t2 X i (n - lr_nx i) S) i S
def lm_lst (X : Nat → Nat → Int64) (N : Nat) (nA nB : Nat → Int32) (nC : Nat → Int64) (Lf : Nat → Int32) : lm_N := lm_t3 X (2 * N) (2 * N) (lm_t1 X (2 * N) (0, nA, nB, nC, Lf))
theorem lm_ls1_eq {v : Int64} {x y : Int32} {S : lm_N} {n1 : Nat} {a1 b1 : Nat → Int32} {c1 : Nat → Int64} {l1 : Nat → Int32} (h : lm_lsO v x y S.1 S.2.1 S.2.2.1 S.2.2.2.1 S.2.2.2.2 n1 a1 b1 c1 l1) : (n1, a1, b1, c1, l1) = lm_ls1 v x y S := by
  unfold lm_ls1
  rcases h with ⟨h, rfl, rfl, rfl, rfl, rfl⟩ | ⟨h, rfl, rfl, rfl, rfl, rfl⟩
  · rw [if_pos h]
  · rw [if_neg h]
theorem lm_ls_le {v : Int64} {x y : Int32} {m : Nat} {a b : Nat → Int32} {c : Nat → Int64} {l : Nat → Int32} {n1 : Nat} {a1 b1 : Nat → Int32} {c1 : Nat → Int64} {l1 : Nat → Int32} (h : lm_lsO v x y m a b c l n1 a1 b1 c1 l1) : n1 ≤ m + 1 := by
  rcases h with ⟨_, rfl, _⟩ | ⟨_, rfl, _⟩ <;> omega
def lm_gd (N : Nat) (S : lm_N) : Prop := ∀ q, q < S.1 → lr_tm (S.2.1 q) (2 * N) ∧ lr_tm (S.2.2.1 q) (2 * N) ∧ ¬ S.2.1 q = 0
theorem lm_upd_n {f : Nat → Int32} {k q : Nat} {x : Int32} (h : q ≠ k) : upd f k x q = f q := by unfold upd; rw [if_neg h]
theorem lm_gd_s {N : Nat} {v : Int64} {x y : Int32} {S : lm_N} {n1 : Nat} {a1 b1 : Nat → Int32} {c1 : Nat → Int64} {l1 : Nat → Int32} (h : lm_lsO v x y S.1 S.2.1 S.2.2.1 S.2.2.2.1 S.2.2.2.2 n1 a1 b1 c1 l1) (hg : lm_gd N S) (hx : lr_tm x (2 * N)) (hy : lr_tm y (2 * N)) (hz : ¬ x = 0) : lm_gd N (n1, a1, b1, c1, l1) := by
  rcases h with ⟨h, rfl, rfl, rfl, rfl, rfl⟩ | ⟨h, rfl, rfl, rfl, rfl, rfl⟩
  · exact hg
  · intro q hq
    have hq : q < S.1 + 1 := hq
    show lr_tm (upd S.2.1 S.1 x q) (2 * N) ∧ lr_tm (upd S.2.2.1 S.1 y q) (2 * N) ∧ ¬ upd S.2.1 S.1 x q = 0
    by_cases e : q = S.1
    · subst e
      rw [lm_upd_k, lm_upd_k]
      exact ⟨hx, hy, hz⟩
    · rw [lm_upd_n e, lm_upd_n e]
      exact hg q (by omega)
theorem lm_gd_0 {N : Nat} {a b : Nat → Int32} {c : Nat → Int64} {l : Nat → Int32} : lm_gd N (0, a, b, c, l) := fun q h => absurd (show q < 0 from h) (by omega)
theorem lm_term_nz {q : Nat} (h : q < 1000) : ¬ lr_term q = 0 := by
  unfold lr_term; split
  · exact nI_nz (by omega) (by omega)
  · exact mI_nz (by omega) (by omega)
def lm_gt (p q : Int64) : Int32 := if p ≤ q then nI 0 else nI 1
theorem lm_gt_b {p q : Int64} : lm_gt p q = 0 ∨ lm_gt p q = 1 := by
  unfold lm_gt; split
  · exact Or.inl rfl
  · exact Or.inr rfl
def lm_el (S : lm_N) (YS : Nat → Nat → Nat → Int64) (t : Nat) : Nat → Int32 := lr_it (fun t L => upd (upd L (S.1 - (t + 1)) (nI 0)) (S.1 - (t + 1)) (lm_gt (lm_bd (YS (S.1 - (t + 1))) (S.2.1 (S.1 - (t + 1))) (S.2.2.1 (S.1 - (t + 1)))) (S.2.2.2.1 (S.1 - (t + 1))))) t S.2.2.2.2
def lm_bld (S : lm_N) (L : Nat → Int32) (n : Nat) : Nat → Nat → Int64 := lr_it (fun q X => if L q = 0 then X else lm_addM X (S.2.1 q) (S.2.2.1 q) (S.2.2.2.1 q)) n (fun _ _ => lr_E)
abbrev lm_Q := Nat × (Nat → Int32) × (Nat → Int32) × (Nat → Int64)
def lm_cm (L : Nat → Int32) (r : Nat) (p : lm_Q) : lm_Q := if L r = 0 then p else (p.1 + 1, upd p.2.1 p.1 (p.2.1 r), upd p.2.2.1 p.1 (p.2.2.1 r), vp_updL p.2.2.2 p.1 (p.2.2.2 r))
def lm_cmF (L : Nat → Int32) (n : Nat) (p : lm_Q) : lm_Q := lr_it (fun r p => lm_cm L r p) n p
def lm_ndF (S : lm_N) (YS : Nat → Nat → Nat → Int64) : lm_Q := lm_cmF (lm_el S YS S.1) S.1 (0, S.2.1, S.2.2.1, S.2.2.2.1)
theorem lm_ag_E {N : Nat} {D : Nat → Int64} (hN : N ≤ 5) : lm_ag N (lr_it (fun k D => vp_updL D k lr_E) 100 D) (fun _ _ => lr_E) := lm_ag_it1 (g := fun _ _ => lr_E) hN (fun _ _ _ _ => rfl)
theorem lm_cm_0 {L l1 : Nat → Int32} {q : Nat} {p p0 : lm_Q} (hel : l1 = L) (hQ : p = lm_cmF L q p0) (c : l1 q = 0) : p = lm_cmF L (q + 1) p0 := by
  subst hel
  show p = lm_cm l1 q (lm_cmF l1 q p0)
  rw [← hQ]; unfold lm_cm; rw [if_pos c]
theorem lm_cm_1 {L l1 : Nat → Int32} {q : Nat} {p p0 : lm_Q} (hel : l1 = L) (hQ : p = lm_cmF L q p0) (c : ¬ l1 q = 0) : (p.1 + 1, upd p.2.1 p.1 (p.2.1 q), upd p.2.2.1 p.1 (p.2.2.1 q), vp_updL p.2.2.2 p.1 (p.2.2.2 q)) = lm_cmF L (q + 1) p0 := by
  subst hel
  show _ = lm_cm l1 q (lm_cmF l1 q p0)
  rw [← hQ]; unfold lm_cm; rw [if_neg c]
