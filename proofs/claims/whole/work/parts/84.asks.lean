/-! forget, and what is asked of a shape, held together -/
def lz_dr (k : Nat) (W : lr_M) : lr_M := fun i j => if i / 2 = k - 1 ∨ j / 2 = k - 1 then none else W i j
theorem lz_dr_y {k i j : Nat} {W : lr_M} (h : i / 2 = k - 1 ∨ j / 2 = k - 1) : lz_dr k W i j = none := if_pos h
theorem lz_dr_n {k i j : Nat} {W : lr_M} (h : ¬ (i / 2 = k - 1 ∨ j / 2 = k - 1)) : lz_dr k W i j = W i j := if_neg h
theorem lz_free {n k1 : Nat} {B : Nat → Int64} (h1 : 1 ≤ k1) (hk : 2 * k1 ≤ n) (h5 : n ≤ 10) : lz_T n (lr_free B n (nI k1) n) = lz_dr k1 (lz_T n B) := by
  have hp : lr_pl (nI k1) = 2 * (k1 - 1) := lr_pl_nI (by omega) (by omega)
  have hpm : lr_pl (-nI k1) = 2 * (k1 - 1) + 1 := lr_pl_mI (by omega) (by omega)
  have h : ∀ m, m ≤ n → lz_T n (lr_free B n (nI k1) m) = fun a b => if (a / 2 = k1 - 1 ∧ b < m) ∨ (b / 2 = k1 - 1 ∧ a < m) then none else lz_T n B a b := by
    intro m
    unfold lr_free
    rw [hp, hpm]
    induction m with
    | zero => intro _; funext a b; rw [if_neg (by omega)]; rfl
    | succ m ih =>
      intro hm
      have ih := ih (by omega)
      show lz_T n (lr_store (lr_store (lr_it (fun i F => lr_store (lr_store F n (2 * (k1 - 1)) i lr_E) n (2 * (k1 - 1) + 1) i lr_E) m B) n (2 * (k1 - 1)) m lr_E) n (2 * (k1 - 1) + 1) m lr_E) = _
      rw [lz_T_store (by omega) (by omega), lz_T_store (by omega) (by omega), ih, lz_v_E]
      funext a b
      unfold lq_up
      show (if (a = 2 * (k1 - 1) + 1 ∧ b = m) ∨ (a = m ∧ b = 2 * (k1 - 1) + 1) then none else if (a = 2 * (k1 - 1) ∧ b = m) ∨ (a = m ∧ b = 2 * (k1 - 1)) then none else if (a / 2 = k1 - 1 ∧ b < m) ∨ (b / 2 = k1 - 1 ∧ a < m) then none else lz_T n B a b) = _
      by_cases w1 : (a = 2 * (k1 - 1) + 1 ∧ b = m) ∨ (a = m ∧ b = 2 * (k1 - 1) + 1)
      · rw [if_pos w1, if_pos (by omega)]
      · rw [if_neg w1]
        by_cases w2 : (a = 2 * (k1 - 1) ∧ b = m) ∨ (a = m ∧ b = 2 * (k1 - 1))
        · rw [if_pos w2, if_pos (by omega)]
        · rw [if_neg w2]
          by_cases w3 : (a / 2 = k1 - 1 ∧ b < m) ∨ (b / 2 = k1 - 1 ∧ a < m)
          · rw [if_pos w3, if_pos (by omega)]
          · rw [if_neg w3, if_neg (by omega)]
  rw [h n (Nat.le_refl _)]
  funext a b
  by_cases q : a < n ∧ b < n
  · by_cases w : a / 2 = k1 - 1 ∨ b / 2 = k1 - 1
    · rw [lz_dr_y w]
      show (if _ then _ else _) = _
      rw [if_pos (by omega)]
    · rw [lz_dr_n w]
      show (if _ then _ else _) = _
      rw [if_neg (by omega)]
  · have e : lz_dr k1 (lz_T n B) a b = none := by
      unfold lz_dr; rw [lz_T_out q, ite_self]
    rw [e]
    show (if _ then _ else _) = _
    rw [lz_T_out q, ite_self]
theorem lz_free_cl {N k1 : Nat} {W : lr_M} (hW : lr_Cl N W) : lr_Cl N (lz_O (2 * N) (some 0) (lz_dr k1 W)) := by
  have hop : ∀ i, lr_op i / 2 = i / 2 := fun i => by unfold lr_op; split <;> omega
  have val : ∀ i j, i < 2 * N → ((j = lr_op i ∧ lz_O (2 * N) (some 0) (lz_dr k1 W) i j = some 0) ∨ (j ≠ lr_op i ∧ (i / 2 = k1 - 1 ∨ j / 2 = k1 - 1) ∧ lz_O (2 * N) (some 0) (lz_dr k1 W) i j = none) ∨ (¬ (i / 2 = k1 - 1 ∨ j / 2 = k1 - 1) ∧ lz_O (2 * N) (some 0) (lz_dr k1 W) i j = W i j)) := fun i j hi => by
    unfold lz_O
    by_cases w : j = lr_op i
    · left; exact ⟨w, if_pos ⟨hi, w⟩⟩
    · by_cases w2 : i / 2 = k1 - 1 ∨ j / 2 = k1 - 1
      · right; left; refine ⟨w, w2, ?_⟩; rw [if_neg (fun e => w e.2), lz_dr_y w2]
      · right; right; refine ⟨w2, ?_⟩; rw [if_neg (fun e => w e.2), lz_dr_n w2]
  refine ⟨lz_O_sym (fun i hi j hj => ?_), fun i hi => lz_Oz hi, fun p hp i hi j hj => ?_, fun i hi c hc => ?_, fun i hi j hj => ?_⟩
  · by_cases w : i / 2 = k1 - 1 ∨ j / 2 = k1 - 1
    · rw [lz_dr_y w, lz_dr_y w.symm]
    · rw [lz_dr_n w, lz_dr_n (fun e => w e.symm)]; exact hW.1 i hi j hj
  · rcases val i p hi with ⟨e, v⟩ | ⟨_, _, v⟩ | ⟨w, v⟩
    · rw [v, e, lr_op_op]
      cases lz_O (2 * N) (some 0) (lz_dr k1 W) i j <;> simp [lr_ad, lr_le]
    · rw [v]; exact lr_le_none _
    · rw [v]
      rcases val (lr_op p) j (lr_op_lt hp) with ⟨e, v2⟩ | ⟨_, _, v2⟩ | ⟨w2, v2⟩
      · rw [lr_op_op] at e
        rw [v2, e, v]
        cases W i p <;> simp [lr_ad, lr_le]
      · rw [v2]; cases W i p <;> exact lr_le_none _
      · rw [v2]
        rcases val i j hi with ⟨e, v3⟩ | ⟨_, w3, _⟩ | ⟨_, v3⟩
        · rw [v3, e, ← hW.2.1 i hi]; exact hW.2.2.1 p hp i hi _ (lr_op_lt hi)
        · exact absurd (w3.imp (fun e => Or.inl e) (fun e => Or.inr e)) (by
            rintro (e | e)
            · rcases e with e | e
              · exact w (Or.inl e)
              · exact w2 (Or.inr e)
            · rcases e with e | e
              · exact w (Or.inl e)
              · exact w2 (Or.inr e))
        · rw [v3]; exact hW.2.2.1 p hp i hi j hj
  · rw [lz_O_dg] at hc
    by_cases w : i / 2 = k1 - 1 ∨ i / 2 = k1 - 1
    · rw [lz_dr_y w] at hc; exact absurd hc (by simp)
    · rw [lz_dr_n w] at hc; exact hW.2.2.2.1 i hi c hc
  · rw [lz_O_dg, lz_O_dg]
    rcases val i j hi with ⟨e, v⟩ | ⟨_, w, v⟩ | ⟨w, v⟩
    · rw [v, e]
      by_cases w : i / 2 = k1 - 1
      · rw [lz_dr_y (Or.inl w)]; exact lr_le_none _
      · rw [lz_dr_n (by omega), lz_dr_n (by rw [hop]; omega)]
        have := hW.2.2.2.2 i hi _ (lr_op_lt hi)
        rw [hW.2.1 i hi] at this
        exact this
    · rcases w with w | w
      · rw [lz_dr_y (Or.inl w)]; exact lr_le_none _
      · rw [lz_dr_y (i := j) (j := j) (Or.inl w)]
        cases lz_dr k1 W i i <;> exact lr_le_none _
    · rw [v, lz_dr_n (by omega), lz_dr_n (by omega)]; exact hW.2.2.2.2 i hi j hj
theorem iv_forget {N k k1 : Nat} {K B : Nat → Nat → Int64} {E Em : Nat → Int32} {R : Nat → Int64} {Km Bm K1 B1 : Nat → Int64} {E1 : Int32} (hN : N ≤ 5) (h : iv_A N K B E R Em) (hk : k < 8) (h1 : 1 ≤ k1) (hk1 : k1 ≤ N) (ha : lr_freeO Km Bm (2 * N) (K k) (B k) (E k) (nI k1) K1 B1 E1) : ∃ o, (∀ q q1, q < 8 → nI k = nI q → 1 ≤ q1 → q1 ≤ N → nI k1 = nI q1 → Em q = 0 → lm_Cl N (lm_dropM (iv_mat N (B q)) q1) o) ∧
    (∀ th r' R1 Em1, lm_forO N R Em (nI k) (nI k1) o th r' R1 Em1 → (∀ K2 B2 E2 r, lr_tkO (2 * N) K1 B1 E1 (K k) (B k) K2 B2 E2 r → th = nI 0 ∧ r' = r ∧ iv_A N (va_up K k K2) (va_up B k B2) (va_up E k E2) R1 Em1) ∧ (E1 = 0 → ¬ lr_tooFar B1 (2 * N))) := by
  obtain ⟨h2, _, m2⟩ := h k hk
  have hkN : okN N (nI k1) := ⟨fun w => by
    have := (nI_ltI (a := k1) (b := 1) (by omega) (by omega)).mp w; omega, (nI_leI (by omega) (by omega)).mpr hk1⟩
  have hro : ∀ {o th r' R1 Em1}, lm_forO N R Em (nI k) (nI k1) o th r' R1 Em1 → th = nI 0 ∧ ((¬ E k = 0 ∧ ∃ F, lm_kcO (nI 0) F N k R Em R1 Em1 r') ∨ (E k = 0 ∧ ∃ F r1, lm_res N o F r1 ∧ lm_kcO r1 F N k R Em R1 Em1 r')) := by
    intro o th r' R1 Em1 hr
    rcases hr with ⟨w, _⟩ | ⟨a, b, l1, e1, _, _, _, e2, hr⟩
    · exact absurd ⟨iv_S hk, hkN⟩ w
    · have := iv_8 hk l1 e1
      subst this
      rw [m2] at hr
      exact ⟨e2, hr⟩
  rcases ha with ⟨he, rfl, rfl, rfl⟩ | ⟨he, rfl, rfl, hkb⟩
  · refine ⟨none, fun q q1 l e _ _ _ w => ?_, fun th r' R1 Em1 hr => ⟨fun K2 B2 E2 r ht => ?_, fun w => absurd w he⟩⟩
    · rw [← iv_8 hk l e, m2] at w; exact absurd w he
    · obtain ⟨q0, hr⟩ := hro hr
      rcases hr with ⟨_, F, q2⟩ | ⟨w, _⟩
      · exact ⟨q0, iv_fin0 h (h2.em he).1 (by rw [lz_T_copy]; exact (h2.em he).2) q2 K2 B2 E2 r ht⟩
      · exact absurd w he
  · obtain ⟨i2, n2⟩ := h2.st he
    have hC := lz_free_cl (k1 := k1) i2.1
    have eB : lz_T (2 * N) (lr_opps (lr_free (lr_copy (B k) Bm (2 * N * (2 * N))) (2 * N) (nI k1) (2 * N)) (2 * N) 0) = lz_O (2 * N) (some 0) (lz_dr k1 (lz_T (2 * N) (B k))) := by
      rw [lz_opps (by omega), lz_free h1 (by omega) (by omega), lz_T_copy, lz_v0]
    have hn : lz_nf (2 * N) (lz_O (2 * N) (some 0) (lz_dr k1 (lz_T (2 * N) (B k)))) := fun i hi j hj => by
      have h0 : lz_b 0 (some (0 : Int)) := lz_b_s.mpr (by omega)
      have pos : (0 : Int) ≤ (if i = j then 2000000000000000 else 1000000000000000) := by split <;> omega
      unfold lz_O
      by_cases w : i < 2 * N ∧ j = lr_op i
      · rw [if_pos w]; exact lz_b_w h0 pos
      · rw [if_neg w]
        by_cases w2 : i / 2 = k1 - 1 ∨ j / 2 = k1 - 1
        · rw [lz_dr_y w2]; exact lz_b_n
        · rw [lz_dr_n w2]; exact n2 i hi j hj
    rw [← eB] at hC hn
    refine ⟨some (iv_mat N (lr_opps (lr_free (lr_copy (B k) Bm (2 * N * (2 * N))) (2 * N) (nI k1) (2 * N)) (2 * N) 0)), fun q q1 l e l1 l2 e1 _ => ?_, fun th r' R1 Em1 hr => ?_⟩
    · rw [← iv_8 hk l e, ← iv_8 (show k1 < 8 by omega) (show q1 < 8 by omega) e1]
      have hb := lz_nf_B hn lz_T_gd
      have eX := lz_drop_X (N := N) (k := k1) (B := B k)
      have eO : lz_O (2 * N) (some 0) (lz_X (2 * N) (lm_dropM (iv_mat N (B k)) k1)) = lz_T (2 * N) (lr_opps (lr_free (lr_copy (B k) Bm (2 * N * (2 * N))) (2 * N) (nI k1) (2 * N)) (2 * N) 0) := by rw [eX, eB]; rfl
      refine iv_R1 (M := 2000000000000000) hN eO hC.1 (fun i j => lz_b_w (hb i j) (by omega)) (fun i hi => iv_op0 eX hi (lr_op_lt hi) ?_) (lr_Is.self hC) hb (by omega) (by omega)
      show lz_dr k1 (lz_T (2 * N) (B k)) i (lr_op i) = none ∨ lz_dr k1 (lz_T (2 * N) (B k)) i (lr_op i) = some 0
      unfold lz_dr
      split
      · exact Or.inl rfl
      · exact Or.inr (i2.1.2.1 i hi)
    · obtain ⟨q0, hr⟩ := hro hr
      rcases hr with ⟨w, _⟩ | ⟨_, F, r1, w1, w2⟩
      · exact absurd he w
      · have := iv_fin2 (k := k) (K1 := K1) hN h he (by
          rcases hkb with ⟨w, _⟩ | ⟨_, w⟩
          · exact absurd he w
          · rw [w, lz_T_kb (by omega)]) hC hn rfl w1 id w2
        exact ⟨fun K2 B2 E2 r ht => ⟨q0, this.1 K2 B2 E2 r ht⟩, fun _ => this.2⟩
/-- bound, kept, fits -/
theorem iv_bd {N : Nat} {B : Nat → Int64} {y z : Int32} : lr_gr B (2 * N) 0 y z = lm_bd (iv_mat N B) y z := by
  unfold lr_gr lm_bd
  rw [if_pos rfl]; rfl
theorem iv_kept {N k : Nat} {K : Nat → Int64} {R : Nat → Int64} {y z : Int32} (hN : N ≤ 5) (hK : iv_K N (lz_T (2 * N) K)) (hr : iv_rr (lz_T (2 * N) K) R k) (hy : okT N y) (hz : okT N z) (h1 : ¬ (y = z ∨ y = -z)) : lr_ofT K (2 * N) y z = lm_kv R k y z := by
  have w1 : ¬ y = z := fun e => h1 (Or.inl e)
  have w2 : ¬ y = -z := fun e => h1 (Or.inr e)
  obtain ⟨hp, hq, _, hpq⟩ := iv_pq hN hy hz w2
  unfold lm_kv
  rw [if_neg w1, if_neg w2]
  have hR := hr (lr_pl (lm_x1 y z)) (by omega) (lr_pl (lm_x1 z y)) (by omega)
  apply lz_v_inj
  rw [show 100 * k + 10 * lr_pl (lm_x1 y z) + lr_pl (lm_x1 z y) = 100 * k + (10 * lr_pl (lm_x1 y z) + lr_pl (lm_x1 z y)) by omega, hR]
  have h00 : ¬ (y = 0 ∧ z = 0) := fun w => w1 (by rw [w.1, w.2])
  have hhalf : ∀ q, q < 2 * N → lz_v (lr_half K (2 * N) q) = lz_hv q q (lz_T (2 * N) K q q) := fun q hq => by
    unfold lr_half lz_hv
    have e := hK.2.2.1 q hq
    have b := hK.2.1 q q
    rw [if_pos rfl]
    rw [lz_T_in hq hq] at e b ⊢
    exact lz_half b (by omega) e
  unfold lr_ofT
  by_cases a : y = 0
  · have b : ¬ z = 0 := fun e => h00 ⟨a, e⟩
    have e1 : lm_x1 y z = z := by unfold lm_x1; rw [if_pos a]
    have e2 : lm_x1 z y = z := by unfold lm_x1; rw [if_neg b]
    rw [if_pos a, e1, e2]
    rw [e1] at hp
    exact hhalf _ hp
  · have e1 : lm_x1 y z = y := by unfold lm_x1; rw [if_neg a]
    rw [if_neg a]
    by_cases b : z = 0
    · have e2 : lm_x1 z y = y := by unfold lm_x1; rw [if_pos b]
      rw [if_pos b, e1, e2]
      rw [e1] at hp
      exact hhalf _ hp
    · have e2 : lm_x1 z y = z := by unfold lm_x1; rw [if_neg b]
      rw [if_neg b, e1, e2]
      rw [e1] at hp
      rw [e2] at hq
      rw [e1, e2] at hpq
      unfold lz_hv
      rw [if_neg (fun e => by have := hpq.mp e; rcases this with q | q | q; exact a q; exact b q; exact w1 q), lz_T_in hp hq]
theorem iv_fitE {z : Int32} (h : okB z) : (-4611686018427387904 : Int64) ≤ ((1 : Int64) <<< ((z - nI 1).toInt64 &&& 63)) - 1 ∧ (-4611686018427387904 : Int64) ≤ (1 : Int64) <<< ((z - nI 1).toInt64 &&& 63) := by
  have h0 : ¬ z < 0 := fun w => h.1 (by
    rw [Int32.lt_iff_toInt_lt] at w ⊢
    have e1 : (nI 1).toInt = 1 := by decide
    have e0 : (0 : Int32).toInt = 0 := by decide
    omega)
  obtain ⟨j, hj, rfl⟩ := nI_of h0
  have h2 := (nI_leI hj (by decide)).mp h.2
  have h1 : ¬ j < 1 := fun w => h.1 ((nI_ltI hj (by decide)).mpr w)
  have : ∀ b, b < 62 → (-4611686018427387904 : Int64) ≤ ((1 : Int64) <<< ((nI (b + 1) - nI 1).toInt64 &&& 63)) - 1 ∧ (-4611686018427387904 : Int64) ≤ (1 : Int64) <<< ((nI (b + 1) - nI 1).toInt64 &&& 63) := by decide
  have := this (j - 1) (by omega)
  rw [show j - 1 + 1 = j by omega] at this
  exact this
/-- comparing row by row -/
theorem iv_wt {P : Nat → Prop} [∀ k, Decidable (P k)] {n : Nat} {z : Int32} (hz : z = nI 0 ∨ z = nI 1) : (lr_it (fun k z => lm_wt (P k) z) n z = nI 1 ∧ z = nI 1 ∧ ∀ k, k < n → ¬ P k) ∨ (lr_it (fun k z => lm_wt (P k) z) n z = nI 0 ∧ ¬ (z = nI 1 ∧ ∀ k, k < n → ¬ P k)) := by
  induction n with
  | zero =>
    rcases hz with hz | hz
    · right; exact ⟨hz, fun w => by rw [hz] at w; exact absurd w.1 (by decide)⟩
    · left; exact ⟨hz, hz, fun k hk => absurd hk (by omega)⟩
  | succ n ih =>
    show (lm_wt (P n) (lr_it (fun k z => lm_wt (P k) z) n z) = nI 1 ∧ _) ∨ (lm_wt (P n) (lr_it (fun k z => lm_wt (P k) z) n z) = nI 0 ∧ _)
    rcases ih with ⟨e, h1, h2⟩ | ⟨e, h1⟩
    · rw [e]
      unfold lm_wt
      rw [if_neg (by decide)]
      by_cases w : P n
      · right; rw [if_pos w]; exact ⟨rfl, fun q => q.2 n (by omega) w⟩
      · left; rw [if_neg w]
        refine ⟨rfl, h1, fun k hk => ?_⟩
        by_cases q : k = n
        · subst q; exact w
        · exact h2 k (by omega)
    · right
      rw [e]
      unfold lm_wt
      rw [if_pos (by decide)]
      exact ⟨rfl, fun q => h1 ⟨q.1, fun k hk => q.2 k (by omega)⟩⟩
theorem iv_wt2 {P : Nat → Nat → Prop} [∀ i k, Decidable (P i k)] {n m : Nat} {z : Int32} (hz : z = nI 0 ∨ z = nI 1) : (lr_it (fun i z => lr_it (fun k z => lm_wt (P i k) z) m z) n z = nI 1 ∧ z = nI 1 ∧ ∀ i, i < n → ∀ k, k < m → ¬ P i k) ∨ (lr_it (fun i z => lr_it (fun k z => lm_wt (P i k) z) m z) n z = nI 0 ∧ ¬ (z = nI 1 ∧ ∀ i, i < n → ∀ k, k < m → ¬ P i k)) := by
  induction n with
  | zero =>
    rcases hz with hz | hz
    · right; exact ⟨hz, fun w => by rw [hz] at w; exact absurd w.1 (by decide)⟩
    · left; exact ⟨hz, hz, fun k hk => absurd hk (by omega)⟩
  | succ n ih =>
    show (lr_it (fun k z => lm_wt (P n k) z) m (lr_it (fun i z => lr_it (fun k z => lm_wt (P i k) z) m z) n z) = nI 1 ∧ _) ∨ (lr_it (fun k z => lm_wt (P n k) z) m (lr_it (fun i z => lr_it (fun k z => lm_wt (P i k) z) m z) n z) = nI 0 ∧ _)
    rcases ih with ⟨e, h1, h2⟩ | ⟨e, h1⟩
    · rcases iv_wt (P := P n) (n := m) (z := lr_it (fun i z => lr_it (fun k z => lm_wt (P i k) z) m z) n z) (Or.inr e) with ⟨a, _, b⟩ | ⟨a, b⟩
      · left
        refine ⟨a, h1, fun i hi => ?_⟩
        by_cases q : i = n
        · subst q; exact b
        · exact h2 i (by omega)
      · right; exact ⟨a, fun q => b ⟨e, q.2 n (by omega)⟩⟩
    · rcases iv_wt (P := P n) (n := m) (z := lr_it (fun i z => lr_it (fun k z => lm_wt (P i k) z) m z) n z) (Or.inl e) with ⟨_, a, _⟩ | ⟨a, b⟩
      · rw [e] at a; exact absurd a (by decide)
      · right; exact ⟨a, fun q => h1 ⟨q.1, fun i hi => q.2 i (by omega)⟩⟩
/-- within -/
theorem iv_within {N k k2 : Nat} {K B : Nat → Nat → Int64} {E Em : Nat → Int32} {R : Nat → Int64} {F : Nat → Int64} (hN : N ≤ 5) (h : iv_A N K B E R Em) (hk : k < 8) (hk2 : k2 < 8) (e1 : E k = 0) (e2 : E k2 = 0) (hF : lm_ag N F (iv_mat N (B k))) : (lm_wtO F R k2 (2 * N) (2 * N) (nI 1) = nI 1 ∧ ∀ i, i < 2 * N → ∀ t, t < 2 * N - i → B k (i * (2 * N) + (i + t)) ≤ B k2 (i * (2 * N) + (i + t))) ∨ (lm_wtO F R k2 (2 * N) (2 * N) (nI 1) = nI 0 ∧ ¬ ∀ i, i < 2 * N → ∀ t, t < 2 * N - i → B k (i * (2 * N) + (i + t)) ≤ B k2 (i * (2 * N) + (i + t))) := by
  obtain ⟨h1, _, _⟩ := h k hk
  obtain ⟨h2, r2, _⟩ := h k2 hk2
  obtain ⟨i1, n1⟩ := h1.st e1
  obtain ⟨i2, n2⟩ := h2.st e2
  have cc : (∀ i, i < 2 * N → ∀ t, t < 2 * N - i → B k (i * (2 * N) + (i + t)) ≤ B k2 (i * (2 * N) + (i + t))) ↔ lr_LE (2 * N) (lz_T (2 * N) (B k)) (lz_T (2 * N) (B k2)) := by
    have key : ∀ i, i < 2 * N → ∀ j, j < 2 * N → (B k (i * (2 * N) + j) ≤ B k2 (i * (2 * N) + j) ↔ lr_le (lz_T (2 * N) (B k) i j) (lz_T (2 * N) (B k2) i j)) := fun i hi j hj => by
      rw [lz_T_in hi hj, lz_T_in hi hj]
      exact lz_le (lz_nf_v n1 hi hj) (lz_nf_v n2 hi hj) (by omega) (by omega)
    constructor
    · intro w i hi j hj
      rcases Nat.le_total i j with q | q
      · have := w i hi (j - i) (by omega)
        rw [show i + (j - i) = j by omega] at this
        exact (key i hi j hj).mp this
      · have := w j hj (i - j) (by omega)
        rw [show j + (i - j) = i by omega] at this
        rw [i1.1.1 i hi j hj, i2.1.1 i hi j hj]
        exact (key j hj i hi).mp this
    · intro w i hi t ht
      exact (key i hi _ (by omega)).mpr (w i hi _ (by omega))
  have rc : (∀ i, i < 2 * N → ∀ j, j < 2 * N → ¬ lm_db i j (R (100 * k2 + 10 * i + j)) < F (10 * i + j)) ↔ lr_LE (2 * N) (lz_T (2 * N) (B k)) (lz_T (2 * N) (B k2)) := by
    have key : ∀ i, i < 2 * N → ∀ j, j < 2 * N → (¬ lm_db i j (R (100 * k2 + 10 * i + j)) < F (10 * i + j) ↔ lr_le (lz_T (2 * N) (B k) i j) (lz_T (2 * N) (K k2) i j)) := fun i hi j hj => by
      have mc := iv_mxc hN h2.1 r2 hi hj
      have ef : lz_v (F (10 * i + j)) = lz_T (2 * N) (B k) i j := by rw [hF i j hi hj, lz_T_in hi hj]; rfl
      rw [Int64.not_lt, lz_le (c := F (10 * i + j)) (d := lm_db i j (R (100 * k2 + 10 * i + j))) (by rw [ef]; exact lz_nf_B n1 lz_T_gd i j) (by rw [mc]; exact h2.1.2.1 i j) (by omega) (by omega), ef, mc]
    constructor
    · intro w
      refine i2.2.2 _ i1.1 (fun i hi j hj => ?_)
      unfold lz_O
      by_cases q : i < 2 * N ∧ j = lr_op i
      · rw [if_pos q, q.2, i1.1.2.1 i hi]; exact lr_le_refl _
      · rw [if_neg q]; exact (key i hi j hj).mp (w i hi j hj)
    · intro w i hi j hj
      refine (key i hi j hj).mpr (lr_le_trans (w i hi j hj) ?_)
      have := i2.2.1 i hi j hj
      unfold lz_O at this
      by_cases q : i < 2 * N ∧ j = lr_op i
      · rw [q.2, h2.1.2.2.2.1 i hi]; exact lr_le_none _
      · rw [if_neg q] at this; exact this
  have := iv_wt2 (P := fun i j => lm_db i j (R (100 * k2 + 10 * i + j)) < F (10 * i + j)) (n := 2 * N) (m := 2 * N) (z := nI 1) (Or.inr rfl)
  rcases this with ⟨a, _, b⟩ | ⟨a, b⟩
  · left; exact ⟨a, cc.mpr (rc.mp b)⟩
  · right; exact ⟨a, fun w => b ⟨rfl, rc.mpr (cc.mp w)⟩⟩
/-- told: counts -/
theorem iv_cntE {E Em : Nat → Int32} (h : ∀ k, k < 8 → Em k = E k) : lm_cntZ Em 8 = lr_cntE E 8 := lr_it_eq (fun i hi a => by rw [h i hi]) 0
theorem lr_it_add {α : Type} {f : Nat → α → α} {a : α} {n : Nat} : ∀ m, lr_it f (n + m) a = lr_it (fun i => f (n + i)) m (lr_it f n a)
  | 0 => rfl
  | m + 1 => by show f (n + m) (lr_it f (n + m) a) = f (n + m) _; rw [lr_it_add m]
theorem lr_it_id {α : Type} {f : Nat → α → α} {a : α} {n : Nat} (h : ∀ i, i < n → ∀ a, f i a = a) : lr_it f n a = a := by
  induction n with
  | zero => rfl
  | succ n ih => show f n (lr_it f n a) = a; rw [ih (fun i hi => h i (by omega)), h n (by omega)]
theorem iv_cntR {N k : Nat} {K R : Nat → Int64} (hN : N ≤ 5) (hK : iv_K N (lz_T (2 * N) K)) (hr : iv_rr (lz_T (2 * N) K) R k) : lm_cntR R k 10 = lr_count K (2 * N) := by
  have cell : ∀ i, i < 10 → ∀ j, j < 10 → (R (100 * k + 10 * i + j) = lr_E ↔ lz_T (2 * N) K i j = none) := fun i hi j hj => by
    have := hr i hi j hj
    rw [show 100 * k + 10 * i + j = 100 * k + (10 * i + j) by omega, ← lz_v_n, this]
    unfold lz_hv
    split
    · cases lz_T (2 * N) K i j <;> simp [lr_hf]
    · exact Iff.rfl
  have inner : ∀ i, i < 10 → ∀ a, lm_cntI R k i (10 - i) a = if i < 2 * N then lr_it (fun t a => a + (if K (i * (2 * N) + (i + t)) = lr_E then 0 else 1)) (2 * N - i) a else a := fun i hi a => by
    unfold lm_cntI
    by_cases w : i < 2 * N
    · rw [if_pos w, show 10 - i = (2 * N - i) + (10 - 2 * N) by omega, lr_it_add]
      rw [lr_it_id (fun t ht a => by
        rw [if_pos ((cell i hi (i + (2 * N - i + t)) (by omega)).mpr (lz_T_out (by omega)))]; rfl)]
      refine lr_it_eq (fun t ht a => ?_) a
      by_cases q : K (i * (2 * N) + (i + t)) = lr_E
      · rw [if_pos q, if_pos ((cell i hi (i + t) (by omega)).mpr (by rw [lz_T_in w (by omega), q, lz_v_E]))]
      · rw [if_neg q, if_neg (fun e => q (by
          have := (cell i hi (i + t) (by omega)).mp e
          rw [lz_T_in w (by omega)] at this; exact lz_v_n.mp this))]
    · rw [if_neg w]
      exact lr_it_id (fun t ht a => by
        rw [if_pos ((cell i hi (i + t) (by omega)).mpr (lz_T_out (by omega)))]; rfl)
  unfold lm_cntR lr_count
  rw [show 10 = 2 * N + (10 - 2 * N) by omega, lr_it_add]
  rw [lr_it_id (fun i hi a => by
    have := inner (2 * N + i) (by omega) a
    rw [if_neg (by omega)] at this
    rw [show 2 * N + (10 - 2 * N) = 10 by omega]
    exact this)]
  refine lr_it_eq (fun i hi a => ?_) 0
  rw [show 2 * N + (10 - 2 * N) = 10 by omega, inner i (by omega) a, if_pos hi]
