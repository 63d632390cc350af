/-! closing, as the class does it: what it gives -/
def lz_M : Nat → Int
  | 0 => 2000000000000000
  | k + 1 => lz_M k + lz_M k
theorem lz_M_le {k : Nat} (h : k ≤ 10) : lz_M k ≤ 2048000000000000000 := by
  have : ∀ k, k < 11 → lz_M k ≤ 2048000000000000000 := by decide
  exact this k (by omega)
theorem lz_M_le9 {k : Nat} (h : k ≤ 9) : lz_M k ≤ 1024000000000000000 := by
  have : ∀ k, k < 10 → lz_M k ≤ 1024000000000000000 := by decide
  exact this k (by omega)
theorem lz_M_0 {k : Nat} (h : k ≤ 10) : 0 ≤ lz_M k := by
  have : ∀ k, k < 11 → 0 ≤ lz_M k := by decide
  exact this k (by omega)
theorem lz_B_step {M : Int} {k : Nat} {X : lr_M} (h : lz_B M X) (h0 : 0 ≤ M) : lz_B (M + M) (lr_step k X) := fun i j => lz_b_mn (lz_b_w (h i j) (by omega)) (lz_b_ad (h i k) (h _ j))
theorem lz_v0 : lz_v 0 = some 0 := by decide
theorem lz_neg0 {M : Int} {c : Int64} (hc : lz_b M (lz_v c)) (hm : M < 4611686018427387904) : c < 0 ↔ ¬ lr_le (some 0) (lz_v c) := by
  have := lz_lt (c := c) (d := 0) (M' := 0) hc (by rw [lz_v0]; exact lz_b_s.mpr (by omega)) hm (by omega)
  rw [lz_v0] at this; exact this
theorem lz_cl1 {n : Nat} {f : Nat → Int64} (he : n % 2 = 0) (hn : n ≤ 10) {X : lr_M} (hX : lz_O n (some 0) (lz_T n f) = X) (hb : lz_B 2000000000000000 X) : ∀ k, k ≤ n → (∀ q, q < k → ¬ lr_oppNeg (lr_cl1 f n (q + 1)) n) → lz_T n (lr_cl1 f n k) = lr_fw X k ∧ lz_B (lz_M k) (lr_fw X k) ∧ ∀ i, i < n → lr_fw X k i (lr_op i) = some 0
  | 0, _, _ => by
    refine ⟨?_, hb, ?_⟩
    · show lz_T n (lr_opps f n 0) = X
      rw [lz_opps he, lz_v0]; exact hX
    · intro i hi
      show X i (lr_op i) = some 0
      rw [← hX]; unfold lz_O; rw [if_pos ⟨hi, rfl⟩]
  | k + 1, hk, hq => by
    obtain ⟨h1, h2, h3⟩ := lz_cl1 he hn hX hb k (by omega) (fun q z => hq q (by omega))
    have hkn : k < n := by omega
    have hop : lr_fw X k (lr_op k) k = some 0 := by
      have := h3 (lr_op k) (lr_op_lt' he hkn)
      rw [lr_op_op] at this; exact this
    have m0 := lz_M_0 (k := k) (by omega)
    have m9 := lz_M_le9 (k := k) (by omega)
    have e : lz_T n (lr_cl1 f n (k + 1)) = lr_fw X (k + 1) := by
      show lz_T n (lr_chain (lr_cl1 f n k) n k) = lr_step k (lr_fw X k)
      rw [lz_chain he hkn (M := lz_M k) (by rw [h1]; exact h2) (by omega) (by rw [h1]; exact hop), h1]
    have eb : lz_B (lz_M (k + 1)) (lr_fw X (k + 1)) := lz_B_step h2 m0
    refine ⟨e, eb, fun i hi => ?_⟩
    have hoi := lr_op_lt' he hi
    have hneg : ¬ lr_cl1 f n (k + 1) (i * n + lr_op i) < 0 := fun z => hq k (by omega) ⟨i, hi, z⟩
    have ev : lz_v (lr_cl1 f n (k + 1) (i * n + lr_op i)) = lr_fw X (k + 1) i (lr_op i) := by rw [← lz_T_in hi hoi, e]
    have m1 := lz_M_le (k := k + 1) (by omega)
    rw [lz_neg0 (M := lz_M (k + 1)) (by rw [ev]; exact eb _ _) (by omega), ev] at hneg
    have hle : lr_le (lr_fw X (k + 1) i (lr_op i)) (lr_fw X k i (lr_op i)) := lr_mn_l _ _
    rw [h3 i hi] at hle
    exact lr_le_anti hle (Classical.not_not.mp hneg)
/-- cutting -/
def lz_ev (X : lr_M) : lr_M := fun i j => if i = j then lr_db (lr_hf (X i i)) else X i j
theorem lz_even {n : Nat} {f : Nat → Int64} {M : Int} (hb : lz_B M (lz_T n f)) (hm : M < 4611686018427387903) : lz_T n (lr_even f n) = lz_ev (lz_T n f) := by
  have h : (fun m F => lz_T n F = fun a b => if a = b ∧ a < m then lr_db (lr_hf (lz_T n f a a)) else lz_T n f a b) n (lr_even f n) := by
    refine lr_it_ix (P := fun m F => lz_T n F = fun a b => if a = b ∧ a < m then lr_db (lr_hf (lz_T n f a a)) else lz_T n f a b) (fun i hi F hF => ?_) ?_
    · have hF : lz_T n F = fun a b => if a = b ∧ a < i then lr_db (lr_hf (lz_T n f a a)) else lz_T n f a b := hF
      have hv : lz_v (F (i * n + i)) = lz_T n f i i := by rw [← lz_T_in hi hi, hF]; simp
      show lz_T n (lr_evenB n i F) = _
      unfold lr_evenB
      by_cases q : F (i * n + i) = lr_E
      · rw [if_pos q, hF]
        rw [q, lz_v_E] at hv
        funext a b
        by_cases z : a = b ∧ a < i + 1
        · rw [if_pos z]
          obtain ⟨rfl, z⟩ := z
          by_cases z2 : a < i
          · rw [if_pos ⟨rfl, z2⟩]
          · have : a = i := by omega
            subst this
            rw [if_neg (by omega), ← hv]; rfl
        · rw [if_neg z, if_neg (by omega)]
      · rw [if_neg q]
        have := (lz_fd q (M := M) (by rw [hv]; exact hb _ _) hm).1
        rw [hv] at this
        funext a b
        by_cases hab : a < n ∧ b < n
        · rw [lz_T_in hab.1 hab.2]
          unfold lr_store
          by_cases z : a = i ∧ b = i
          · obtain ⟨rfl, rfl⟩ := z
            rw [vl_eq, if_pos (by omega), this]
          · have z3 : a * n + b ≠ i * n + i := fun z2 => z ((lz_ix hab.2 hi).mp z2)
            rw [vl_ne z3, vl_ne z3, ← lz_T_in hab.1 hab.2, hF]
            simp only
            by_cases z2 : a = b ∧ a < i
            · rw [if_pos z2, if_pos (by omega)]
            · rw [if_neg z2, if_neg (by omega)]
        · rw [lz_T_out hab]
          by_cases z : a = b ∧ a < i + 1
          · obtain ⟨rfl, z⟩ := z
            rw [if_pos ⟨rfl, z⟩, lz_T_out (by omega)]; rfl
          · rw [if_neg z, lz_T_out hab]
    · show lz_T n f = _
      funext a b; rw [if_neg (by omega)]
  have h : lz_T n (lr_even f n) = fun a b => if a = b ∧ a < n then lr_db (lr_hf (lz_T n f a a)) else lz_T n f a b := h
  rw [h]; funext a b; unfold lz_ev
  by_cases z : a = b
  · subst z
    by_cases z2 : a < n
    · rw [if_pos ⟨rfl, z2⟩, if_pos rfl]
    · rw [if_neg (by omega), if_pos rfl, lz_T_out (by omega)]; rfl
  · rw [if_neg (by omega), if_neg z]
def lz_ha (X : lr_M) : lr_M := fun i j => if i = j then X i i else lr_mn (X i j) (lr_ad (lr_hf (X i i)) (lr_hf (X j j)))
theorem lz_halves {n : Nat} {f : Nat → Int64} {M : Int} (hs : lr_Sym n (lz_T n f)) (hev : ∀ i, i < n → ∀ x, lz_T n f i i = some x → x % 2 = 0) (hb : lz_B M (lz_T n f)) (h0 : 0 ≤ M) (hm : M + M < 4611686018427387904) : lz_T n (lr_halves f n) = lz_ha (lz_T n f) := by
  have hsym : ∀ a b, lz_ha (lz_T n f) a b = lz_ha (lz_T n f) b a := fun a b => by
    unfold lz_ha
    by_cases h : a = b
    · subst h; rfl
    · rw [if_neg h, if_neg (fun q => h q.symm), lr_ad_comm]
      congr 1
      by_cases hab : a < n ∧ b < n
      · exact hs a hab.1 b hab.2
      · rw [lz_T_out hab, lz_T_out (by omega)]
  let Q : Nat → Nat → (Nat → Int64) → Prop := fun i t F => lz_T n F = fun a b => if a ≠ b ∧ (min a b < i ∨ (min a b = i ∧ max a b < i + 1 + t)) then lz_ha (lz_T n f) a b else lz_T n f a b
  have h : Q n 0 (lr_halves f n) := by
    refine lr_it_ix (P := fun i F => Q i 0 F) (fun i hi F hF => ?_) ?_
    · have hin : Q i (n - (i + 1)) (lr_it (fun t f => lr_lower f n i (i + 1 + t) (lr_plus (lr_half f n i) (lr_half f n (i + 1 + t)))) (n - (i + 1)) F) := by
        refine lr_it_ix (P := fun t F => Q i t F) (fun t ht G hG => ?_) hF
        have hG : lz_T n G = fun a b => if a ≠ b ∧ (min a b < i ∨ (min a b = i ∧ max a b < i + 1 + t)) then lz_ha (lz_T n f) a b else lz_T n f a b := hG
        have hj : i + 1 + t < n := by omega
        have d1 : ∀ q, q < n → lz_v (G (q * n + q)) = lz_T n f q q := fun q hq => by rw [← lz_T_in hq hq, hG]; simp
        have d2 : lz_v (G (i * n + (i + 1 + t))) = lz_T n f i (i + 1 + t) := by
          rw [← lz_T_in hi hj, hG]; simp only; rw [if_neg (by omega)]
        have hh : ∀ q, q < n → lz_v (lr_half G n q) = lr_hf (lz_T n f q q) := fun q hq => by
          unfold lr_half
          rw [lz_half (M := M) (by rw [d1 q hq]; exact hb _ _) (by omega) (by rw [d1 q hq]; exact hev q hq), d1 q hq]
        have hbh : ∀ q, lz_b M (lr_hf (lz_T n f q q)) := fun q => lz_b_hf (hb q q) h0
        have hp := lz_plus (c := lr_half G n i) (d := lr_half G n (i + 1 + t)) (M := M) (M' := M) (by rw [hh i hi]; exact hbh i) (by rw [hh _ hj]; exact hbh _) hm
        rw [hh i hi, hh _ hj] at hp
        have hmn := lz_min (c := G (i * n + (i + 1 + t))) (d := lr_plus (lr_half G n i) (lr_half G n (i + 1 + t))) (M := M) (M' := M + M) (by rw [d2]; exact hb _ _) (by rw [hp]; exact lz_b_ad (hbh _) (hbh _)) (by omega) hm
        rw [d2, hp] at hmn
        show lz_T n (lr_lower G n i (i + 1 + t) (lr_plus (lr_half G n i) (lr_half G n (i + 1 + t)))) = _
        unfold lr_lower lr_store
        funext a b
        by_cases hab : a < n ∧ b < n
        · rw [lz_T_in hab.1 hab.2, lm_up2]
          by_cases z : a * n + b = i * n + (i + 1 + t) ∨ a * n + b = (i + 1 + t) * n + i
          · rw [if_pos z, hmn]
            rw [lz_ix hab.2 hj, lz_ix hab.2 hi] at z
            rcases z with ⟨rfl, rfl⟩ | ⟨rfl, rfl⟩
            · rw [if_pos (by omega)]
              unfold lz_ha; rw [if_neg (by omega)]
            · rw [if_pos (by omega), hsym]
              unfold lz_ha; rw [if_neg (by omega)]
          · rw [if_neg z, ← lz_T_in hab.1 hab.2, hG]
            rw [lz_ix hab.2 hj, lz_ix hab.2 hi] at z
            simp only
            by_cases z2 : a ≠ b ∧ (min a b < i ∨ (min a b = i ∧ max a b < i + 1 + t))
            · rw [if_pos z2, if_pos (by omega)]
            · rw [if_neg z2, if_neg (by omega)]
        · rw [lz_T_out hab]
          have s1 : lz_T n f a b = none := lz_T_out hab
          have s2 : lz_ha (lz_T n f) a b = none := by
            unfold lz_ha
            by_cases z : a = b
            · rw [if_pos z, lz_T_out (by omega)]
            · rw [if_neg z, s1]
              by_cases z2 : a < n
              · rw [lz_T_out (i := b) (by omega)]; cases lr_hf (lz_T n f a a) <;> rfl
              · rw [lz_T_out (i := a) (j := a) (by omega)]; rfl
          rw [s1, s2, ite_self]
      have hin : lz_T n (lr_it (fun t f => lr_lower f n i (i + 1 + t) (lr_plus (lr_half f n i) (lr_half f n (i + 1 + t)))) (n - (i + 1)) F) = fun a b => if a ≠ b ∧ (min a b < i ∨ (min a b = i ∧ max a b < i + 1 + (n - (i + 1)))) then lz_ha (lz_T n f) a b else lz_T n f a b := hin
      show lz_T n (lr_it (fun t f => lr_lower f n i (i + 1 + t) (lr_plus (lr_half f n i) (lr_half f n (i + 1 + t)))) (n - (i + 1)) F) = _
      rw [hin]; funext a b
      by_cases hab : a < n ∧ b < n
      · by_cases z2 : a ≠ b ∧ (min a b < i ∨ (min a b = i ∧ max a b < i + 1 + (n - (i + 1))))
        · rw [if_pos z2, if_pos (by omega)]
        · rw [if_neg z2, if_neg (by omega)]
      · have s1 : lz_T n f a b = none := lz_T_out hab
        have s2 : lz_ha (lz_T n f) a b = none := by
          unfold lz_ha
          by_cases z : a = b
          · rw [if_pos z, lz_T_out (by omega)]
          · rw [if_neg z, s1]
            by_cases z2 : a < n
            · rw [lz_T_out (i := b) (by omega)]; cases lr_hf (lz_T n f a a) <;> rfl
            · rw [lz_T_out (i := a) (j := a) (by omega)]; rfl
        rw [s1, s2, ite_self, ite_self]
    · show lz_T n f = _
      funext a b; rw [if_neg (by omega)]
  have h : lz_T n (lr_halves f n) = fun a b => if a ≠ b ∧ (min a b < n ∨ (min a b = n ∧ max a b < n + 1 + 0)) then lz_ha (lz_T n f) a b else lz_T n f a b := h
  rw [h]; funext a b
  by_cases z : a = b
  · subst z
    rw [if_neg (by omega)]; unfold lz_ha; rw [if_pos rfl]
  · by_cases z2 : min a b < n
    · rw [if_pos (by omega)]
    · have s1 : lz_T n f a b = none := lz_T_out (by omega)
      rw [if_neg (by omega)]
      unfold lz_ha; rw [if_neg z, s1, lz_T_out (i := a) (by omega)]; rfl
theorem lz_hacut (X : lr_M) : lz_ha (lz_ev X) = lr_cut X := by
  funext i j
  unfold lz_ha lz_ev lr_cut
  by_cases h : i = j
  · subst h; rw [if_pos rfl, if_pos rfl, if_pos rfl]
  · rw [if_neg h, if_neg h, if_neg h, if_pos rfl, if_pos rfl, lr_hd, lr_hd]
/-- WHAT CLOSING GIVES in the class -/
theorem lz_CT {N : Nat} {f : Nat → Int64} (hN : N ≤ 5) {X : lr_M} (hX : lz_O (2 * N) (some 0) (lz_T (2 * N) f) = X) (hs : lr_Sym (2 * N) X) (hb : lz_B 2000000000000000 X) : (lr_okA f (2 * N) ∧ lr_Is N X (lz_T (2 * N) (lr_clR f (2 * N))) ∧ lz_B 2100000000000000000 (lz_T (2 * N) (lr_clR f (2 * N)))) ∨ (¬ lr_okA f (2 * N) ∧ lr_No N X) := by
  have he : 2 * N % 2 = 0 := by omega
  have h0X : ∀ i, i < 2 * N → X i (lr_op i) = some 0 := fun i hi => by rw [← hX]; unfold lz_O; rw [if_pos ⟨hi, rfl⟩]
  by_cases hall : ∀ q, q < 2 * N → ¬ lr_oppNeg (lr_cl1 f (2 * N) (q + 1)) (2 * N)
  · obtain ⟨h1, h2, h3⟩ := lz_cl1 he (by omega) hX hb (2 * N) (Nat.le_refl _) hall
    have m1 := lz_M_le (k := 2 * N) (by omega)
    have m0 := lz_M_0 (k := 2 * N) (by omega)
    have ht := lr_fw_tri (n := N) (D := X) (2 * N) (Nat.le_refl _) (fun q hq => by
      have := (lz_cl1 he (by omega) hX hb q (by omega) (fun q' z => hall q' (by omega))).2.2 (lr_op q) (lr_op_lt hq)
      rw [lr_op_op] at this
      rw [this]; exact lr_le_refl _)
    have hsy := lr_fw_sym hs ht
    have hE : lz_T (2 * N) (lr_even (lr_cl1 f (2 * N) (2 * N)) (2 * N)) = lz_ev (lr_fw X (2 * N)) := by
      rw [lz_even (M := lz_M (2 * N)) (by rw [h1]; exact h2) (by omega), h1]
    have hEb : lz_B (lz_M (2 * N) + 1) (lz_ev (lr_fw X (2 * N))) := fun i j => by
      unfold lz_ev
      by_cases z : i = j
      · rw [if_pos z]
        have := h2 i i
        cases e : lr_fw X (2 * N) i i with
        | none => exact lz_b_n
        | some x =>
          have := this x e
          exact lz_b_s.mpr (by omega)
      · rw [if_neg z]; exact lz_b_w (h2 i j) (by omega)
    have hdg : ∀ i, lz_ev (lr_fw X (2 * N)) i i = lr_db (lr_hf (lr_fw X (2 * N) i i)) := fun i => if_pos rfl
    have hH : lz_T (2 * N) (lr_clR f (2 * N)) = lr_cut (lr_fw X (2 * N)) := by
      show lz_T (2 * N) (lr_halves _ (2 * N)) = _
      rw [lz_halves (M := lz_M (2 * N) + 1) ?_ ?_ (by rw [hE]; exact hEb) (by omega) (by omega), hE, lz_hacut]
      · rw [hE]; intro i hi j hj
        unfold lz_ev
        by_cases z : i = j
        · subst z; rfl
        · rw [if_neg z, if_neg (fun q => z q.symm)]; exact hsy i hi j hj
      · rw [hE]; intro i hi x hx
        rw [hdg] at hx
        cases e : lr_fw X (2 * N) i i with
        | none => rw [e] at hx; simp [lr_hf, lr_db] at hx
        | some y => rw [e] at hx; simp [lr_hf, lr_db] at hx; omega
    have htw : ∀ i, i < 2 * N → (lr_plus (lr_even (lr_cl1 f (2 * N) (2 * N)) (2 * N) (i * (2 * N) + i)) (lr_even (lr_cl1 f (2 * N) (2 * N)) (2 * N) (lr_op i * (2 * N) + lr_op i)) < 0 ↔ ¬ lr_le (some 0) (lr_ad (lr_hf (lr_fw X (2 * N) i i)) (lr_hf (lr_fw X (2 * N) (lr_op i) (lr_op i))))) := fun i hi => by
      have ho := lr_op_lt hi
      have e1 : ∀ q, q < 2 * N → lz_v (lr_even (lr_cl1 f (2 * N) (2 * N)) (2 * N) (q * (2 * N) + q)) = lr_db (lr_hf (lr_fw X (2 * N) q q)) := fun q hq => by rw [← lz_T_in hq hq, hE, hdg]
      have b1 : ∀ q, lz_b (lz_M (2 * N) + 1) (lr_db (lr_hf (lr_fw X (2 * N) q q))) := fun q => by rw [← hdg]; exact hEb q q
      have hp := lz_plus (M := lz_M (2 * N) + 1) (M' := lz_M (2 * N) + 1) (c := lr_even (lr_cl1 f (2 * N) (2 * N)) (2 * N) (i * (2 * N) + i)) (d := lr_even (lr_cl1 f (2 * N) (2 * N)) (2 * N) (lr_op i * (2 * N) + lr_op i)) (by rw [e1 i hi]; exact b1 i) (by rw [e1 _ ho]; exact b1 _) (by omega)
      rw [e1 i hi, e1 _ ho] at hp
      rw [lz_neg0 (M := lz_M (2 * N) + 1 + (lz_M (2 * N) + 1)) (by rw [hp]; exact lz_b_ad (b1 _) (b1 _)) (by omega), hp, ← lr_db_ad]
      generalize lr_ad (lr_hf (lr_fw X (2 * N) i i)) (lr_hf (lr_fw X (2 * N) (lr_op i) (lr_op i))) = y
      cases y <;> simp [lr_db, lr_le]; omega
    by_cases hh : ∀ i, i < 2 * N → lr_le (some 0) (lr_ad (lr_hf (lr_fw X (2 * N) i i)) (lr_hf (lr_fw X (2 * N) (lr_op i) (lr_op i))))
    · left
      refine ⟨⟨hall, ?_⟩, ?_, ?_⟩
      · rintro ⟨i, hi, z⟩
        exact (htw i hi).mp z (hh i hi)
      rotate_left
      · rw [hH, ← lz_hacut]
        have hhf : ∀ q, lz_b 1030000000000000000 (lr_hf (lz_ev (lr_fw X (2 * N)) q q)) := fun q => by
          have := hEb q q
          cases e : lz_ev (lr_fw X (2 * N)) q q with
          | none => exact lz_b_n
          | some x =>
            have := this x e
            exact lz_b_s.mpr (by omega)
        intro i j
        unfold lz_ha
        by_cases z : i = j
        · rw [if_pos z]; exact lz_b_w (hEb i i) (by omega)
        · rw [if_neg z]; exact lz_b_mn (lz_b_w (hEb i j) (by omega)) (lz_b_w (lz_b_ad (hhf i) (hhf j)) (by omega))
      · rw [hH]
        refine lr_close_is hs h0X (fun k hk i hi => ?_) hh
        have := (lz_cl1 he (by omega) hX hb k hk (fun q' z => hall q' (by omega))).2.2 i hi
        rw [this]; exact lr_le_refl _
    · right
      have ⟨i, hi⟩ : ∃ i, ¬ (i < 2 * N → lr_le (some 0) (lr_ad (lr_hf (lr_fw X (2 * N) i i)) (lr_hf (lr_fw X (2 * N) (lr_op i) (lr_op i))))) := Classical.not_forall.mp hh
      have hi1 : i < 2 * N := Classical.byContradiction fun q => hi (fun z => absurd z q)
      have hi2 : ¬ lr_le (some 0) (lr_ad (lr_hf (lr_fw X (2 * N) i i)) (lr_hf (lr_fw X (2 * N) (lr_op i) (lr_op i)))) := fun q => hi (fun _ => q)
      exact ⟨fun ⟨_, z⟩ => z ⟨i, hi1, (htw i hi1).mpr hi2⟩, lr_close_no2 hi1 hi2⟩
  · right
    refine ⟨fun ⟨z, _⟩ => hall z, ?_⟩
    -- the first one
    have hex : ∃ q, q < 2 * N ∧ lr_oppNeg (lr_cl1 f (2 * N) (q + 1)) (2 * N) ∧ ∀ q', q' < q → ¬ lr_oppNeg (lr_cl1 f (2 * N) (q' + 1)) (2 * N) := by
      have : ∀ m, m ≤ 2 * N → (∀ q, q < m → ¬ lr_oppNeg (lr_cl1 f (2 * N) (q + 1)) (2 * N)) ∨ ∃ q, q < 2 * N ∧ lr_oppNeg (lr_cl1 f (2 * N) (q + 1)) (2 * N) ∧ ∀ q', q' < q → ¬ lr_oppNeg (lr_cl1 f (2 * N) (q' + 1)) (2 * N) := by
        intro m
        induction m with
        | zero => intro _; left; intro q z; omega
        | succ m ih =>
          intro hm
          rcases ih (by omega) with z | z
          · by_cases z2 : lr_oppNeg (lr_cl1 f (2 * N) (m + 1)) (2 * N)
            · right; exact ⟨m, by omega, z2, z⟩
            · left; intro q hq
              by_cases z3 : q = m
              · subst z3; exact z2
              · exact z q (by omega)
          · right; exact z
      exact (this (2 * N) (Nat.le_refl _)).resolve_left hall
    obtain ⟨q, hq, ⟨i, hi, hneg⟩, hbef⟩ := hex
    obtain ⟨h1, h2, h3⟩ := lz_cl1 he (by omega) hX hb q (by omega) hbef
    have m0 := lz_M_0 (k := q) (by omega)
    have m9 := lz_M_le9 (k := q) (by omega)
    have m1 := lz_M_le (k := q + 1) (by omega)
    have hop : lr_fw X q (lr_op q) q = some 0 := by
      have := h3 (lr_op q) (lr_op_lt hq)
      rw [lr_op_op] at this; exact this
    have e : lz_T (2 * N) (lr_cl1 f (2 * N) (q + 1)) = lr_fw X (q + 1) := by
      show lz_T (2 * N) (lr_chain (lr_cl1 f (2 * N) q) (2 * N) q) = lr_step q (lr_fw X q)
      rw [lz_chain he hq (M := lz_M q) (by rw [h1]; exact h2) (by omega) (by rw [h1]; exact hop), h1]
    have eb : lz_B (lz_M (q + 1)) (lr_fw X (q + 1)) := lz_B_step h2 m0
    have ev : lz_v (lr_cl1 f (2 * N) (q + 1) (i * (2 * N) + lr_op i)) = lr_fw X (q + 1) i (lr_op i) := by rw [← lz_T_in hi (lr_op_lt hi), e]
    rw [lz_neg0 (M := lz_M (q + 1)) (by rw [ev]; exact eb _ _) (by omega), ev] at hneg
    exact lr_close_no1 (by omega) hi hneg
