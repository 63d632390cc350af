/-! CLOSING, as the class does it -/
def lz_T (n : Nat) (f : Nat → Int64) : lr_M := fun i j => if i < n ∧ j < n then lz_v (f (i * n + j)) else none
theorem lz_T_in {n i j : Nat} {f : Nat → Int64} (hi : i < n) (hj : j < n) : lz_T n f i j = lz_v (f (i * n + j)) := if_pos ⟨hi, hj⟩
theorem lz_T_out {n i j : Nat} {f : Nat → Int64} (h : ¬ (i < n ∧ j < n)) : lz_T n f i j = none := if_neg h
def lz_B (M : Int) (X : lr_M) : Prop := ∀ i j, lz_b M (X i j)
theorem lz_ix {n i j i' j' : Nat} (hj : j < n) (hj' : j' < n) : i * n + j = i' * n + j' ↔ i = i' ∧ j = j' := by
  constructor
  · intro h
    rcases Nat.lt_trichotomy i i' with q | q | q
    · exfalso
      have : (i + 1) * n ≤ i' * n := Nat.mul_le_mul_right n q
      rw [Nat.succ_mul] at this; omega
    · subst q; exact ⟨rfl, by omega⟩
    · exfalso
      have : (i' + 1) * n ≤ i * n := Nat.mul_le_mul_right n q
      rw [Nat.succ_mul] at this; omega
  · rintro ⟨rfl, rfl⟩; rfl
theorem lr_it_inv {α : Type} {P : α → Prop} {f : Nat → α → α} : ∀ {n : Nat}, (∀ i, i < n → ∀ a, P a → P (f i a)) → ∀ {a : α}, P a → P (lr_it f n a)
  | 0, _, _, h => h
  | n + 1, hf, _, h => hf n (by omega) _ (lr_it_inv (fun i hi => hf i (by omega)) h)
theorem lr_it_ix {α : Type} {P : Nat → α → Prop} {f : Nat → α → α} : ∀ {n : Nat}, (∀ i, i < n → ∀ a, P i a → P (i + 1) (f i a)) → ∀ {a : α}, P 0 a → P n (lr_it f n a)
  | 0, _, _, h => h
  | n + 1, hf, _, h => hf n (by omega) _ (lr_it_ix (fun i hi => hf i (by omega)) h)
/-- opposites -/
def lz_O (n : Nat) (c : Option Int) (X : lr_M) : lr_M := fun i j => if i < n ∧ j = lr_op i then c else X i j
theorem lz_opps {n : Nat} {f : Nat → Int64} {c : Int64} (he : n % 2 = 0) : lz_T n (lr_opps f n c) = lz_O n (lz_v c) (lz_T n f) := by
  have h : ∀ m, m ≤ n → lz_T n (lr_it (fun i f => vp_updL f (i * n + lr_op i) c) m f) = lz_O m (lz_v c) (lz_T n f) := by
    intro m
    induction m with
    | zero => intro _; funext i j; unfold lz_O; rw [if_neg (by omega)]; rfl
    | succ m ih =>
      intro hm
      have ih := ih (by omega)
      funext i j
      show lz_T n (vp_updL (lr_it (fun i f => vp_updL f (i * n + lr_op i) c) m f) (m * n + lr_op m) c) i j = _
      have ho := lr_op_lt' he (show m < n by omega)
      by_cases hij : i < n ∧ j < n
      · rw [lz_T_in hij.1 hij.2]
        by_cases q : i = m ∧ j = lr_op m
        · obtain ⟨rfl, rfl⟩ := q
          rw [vl_eq]; unfold lz_O; rw [if_pos (by omega)]
        · rw [vl_ne (fun z => q ((lz_ix hij.2 ho).mp z)), ← lz_T_in hij.1 hij.2, ih]
          unfold lz_O
          by_cases q2 : i < m ∧ j = lr_op i
          · rw [if_pos q2, if_pos ⟨by omega, q2.2⟩]
          · rw [if_neg q2, if_neg]
            rintro ⟨z1, z2⟩
            by_cases z3 : i = m
            · subst z3; exact q ⟨rfl, z2⟩
            · exact q2 ⟨by omega, z2⟩
      · rw [lz_T_out hij]
        have := lz_T_out (f := lr_it (fun i f => vp_updL f (i * n + lr_op i) c) m f) hij
        unfold lz_O
        rw [if_neg, lz_T_out hij]
        rintro ⟨z1, z2⟩
        exact hij ⟨by omega, by rw [z2]; exact lr_op_lt' he (by omega)⟩
  exact h n (Nat.le_refl n)
/-- chains through k: in place, but what is read does not change -/
theorem lz_chain {n k : Nat} {f : Nat → Int64} {M : Int} (he : n % 2 = 0) (hk : k < n) (hb : lz_B M (lz_T n f)) (hm : M + M < 4611686018427387904) (h0 : lz_T n f (lr_op k) k = some 0) : lz_T n (lr_chain f n k) = lr_step k (lz_T n f) := by
  have ho := lr_op_lt' he hk
  -- after i rows
  let P : Nat → (Nat → Int64) → Prop := fun i g => lz_T n g = fun a b => if a < i then lr_step k (lz_T n f) a b else lz_T n f a b
  have hfix : ∀ j, lr_step k (lz_T n f) (lr_op k) j = lz_T n f (lr_op k) j := fun j => by
    show lr_mn _ (lr_ad (lz_T n f (lr_op k) k) _) = _
    rw [h0]
    cases lz_T n f (lr_op k) j <;> simp [lr_ad, lr_mn]
  have hcol : ∀ i, lr_step k (lz_T n f) i k = lz_T n f i k := fun i => by
    show lr_mn _ (lr_ad _ (lz_T n f (lr_op k) k)) = _
    rw [h0]
    cases lz_T n f i k <;> simp [lr_ad, lr_mn]
  have h : P n (lr_chain f n k) := by
    refine lr_it_ix (P := P) (fun i hi g hg => ?_) ?_
    · show lz_T n (lr_chI n k i g) = _
      have hg : lz_T n g = fun a b => if a < i then lr_step k (lz_T n f) a b else lz_T n f a b := hg
      have hik : lz_T n g i k = lz_T n f i k := by rw [hg]; simp
      have hrow : ∀ j, lz_T n g (lr_op k) j = lz_T n f (lr_op k) j := fun j => by
        rw [hg]; simp only
        split
        · exact hfix j
        · rfl
      have hij : ∀ j, lz_T n g i j = lz_T n f i j := fun j => by rw [hg]; simp
      unfold lr_chI
      by_cases hc : g (i * n + k) = lr_E
      · rw [if_pos hc, hg]
        funext a b
        by_cases q : a < i
        · rw [if_pos q, if_pos (by omega)]
        · rw [if_neg q]
          by_cases q2 : a = i
          · subst q2
            rw [if_pos (by omega)]
            have : lz_T n f a k = none := by rw [← hik, lz_T_in hi hk, hc, lz_v_E]
            show _ = lr_mn _ (lr_ad _ _)
            rw [this]
            cases lz_T n f a b <;> rfl
          · rw [if_neg (by omega)]
      · rw [if_neg hc]
        have hcv : lz_v (g (i * n + k)) = lz_T n f i k := by rw [← hik, lz_T_in hi hk]
        have key : (fun t F => lz_T n F = fun a b => if a < i ∨ (a = i ∧ b < t) then lr_step k (lz_T n f) a b else lz_T n f a b) n (lr_it (fun j F => lr_chJ n k i j F (g (i * n + k))) n g) := by
          refine lr_it_ix (P := fun t F => lz_T n F = fun a b => if a < i ∨ (a = i ∧ b < t) then lr_step k (lz_T n f) a b else lz_T n f a b) (fun j hj F hF => ?_) ?_
          · have hF : lz_T n F = fun a b => if a < i ∨ (a = i ∧ b < j) then lr_step k (lz_T n f) a b else lz_T n f a b := hF
            have h1 : lz_v (F (lr_op k * n + j)) = lz_T n f (lr_op k) j := by
              rw [← lz_T_in ho hj, hF]; simp only
              split
              · exact hfix j
              · rfl
            have h2 : lz_v (F (i * n + j)) = lz_T n f i j := by
              rw [← lz_T_in hi hj, hF]; simp
            have e1 : lz_v (g (i * n + k) + F (lr_op k * n + j)) = lr_ad (lz_T n f i k) (lz_T n f (lr_op k) j) ∨ F (lr_op k * n + j) = lr_E := by
              by_cases q : F (lr_op k * n + j) = lr_E
              · exact Or.inr q
              · left
                have := lz_plus (c := g (i * n + k)) (d := F (lr_op k * n + j)) (by rw [hcv]; exact hb _ _) (by rw [h1]; exact hb _ _) hm
                unfold lr_plus at this
                rw [if_neg (by simp [hc, q])] at this
                rw [this, hcv, h1]
            show lz_T n (lr_chJ n k i j F (g (i * n + k))) = _
            have goalrw : ∀ F', (lz_v (F' (i * n + j)) = lr_step k (lz_T n f) i j) → (∀ q, q ≠ i * n + j → F' q = F q) → lz_T n F' = fun a b => if a < i ∨ (a = i ∧ b < j + 1) then lr_step k (lz_T n f) a b else lz_T n f a b := by
              intro F' z1 z2
              funext a b
              by_cases hab : a < n ∧ b < n
              · rw [lz_T_in hab.1 hab.2]
                by_cases q : a = i ∧ b = j
                · obtain ⟨rfl, rfl⟩ := q
                  rw [z1, if_pos (by omega)]
                · rw [z2 _ (fun z => q ((lz_ix hab.2 hj).mp z)), ← lz_T_in hab.1 hab.2, hF]
                  simp only
                  by_cases q2 : a < i ∨ (a = i ∧ b < j)
                  · rw [if_pos q2, if_pos (by omega)]
                  · rw [if_neg q2, if_neg (by omega)]
              · rw [lz_T_out hab]
                have s1 : lz_T n f a b = none := lz_T_out hab
                have s2 : lr_step k (lz_T n f) a b = none := by
                  show lr_mn _ (lr_ad _ _) = _
                  rw [s1]
                  by_cases z : a < n
                  · rw [lz_T_out (i := lr_op k) (by omega)]; cases lz_T n f a k <;> rfl
                  · rw [lz_T_out (i := a) (j := k) (by omega)]; rfl
                rw [s1, s2, ite_self]
            have hstep : lr_step k (lz_T n f) i j = lr_mn (lz_T n f i j) (lr_ad (lz_T n f i k) (lz_T n f (lr_op k) j)) := rfl
            unfold lr_chJ
            by_cases q : F (lr_op k * n + j) = lr_E
            · rw [if_pos q]
              refine goalrw F ?_ (fun _ _ => rfl)
              rw [h2, hstep, ← h1, q, lz_v_E]
              cases lz_T n f i j <;> cases lz_T n f i k <;> rfl
            · have e1 := e1.resolve_right q
              rw [if_neg q]
              have hle := lz_le (c := F (i * n + j)) (d := g (i * n + k) + F (lr_op k * n + j)) (M := M) (M' := M + M) (by rw [h2]; exact hb _ _) (by rw [e1]; exact lz_b_ad (hb _ _) (hb _ _)) (by have := hb i k; by_cases z : 0 ≤ M <;> omega) hm
              by_cases q2 : F (i * n + j) ≤ g (i * n + k) + F (lr_op k * n + j)
              · rw [if_pos q2]
                refine goalrw F ?_ (fun _ _ => rfl)
                rw [h2, hstep]
                rw [hle, h2, e1] at q2
                exact (lr_mn_of q2).symm
              · rw [if_neg q2]
                refine goalrw _ ?_ (fun q h => vl_ne h)
                rw [vl_eq, e1, hstep]
                rw [hle, h2, e1] at q2
                exact (lr_mn_of' q2).symm
          · rw [hg]; funext a b
            congr 1
            simp
        have key : lz_T n (lr_it (fun j F => lr_chJ n k i j F (g (i * n + k))) n g) = fun a b => if a < i ∨ (a = i ∧ b < n) then lr_step k (lz_T n f) a b else lz_T n f a b := key
        rw [key]
        funext a b
        by_cases q : a < i + 1
        · rw [if_pos q]
          by_cases q2 : a < i ∨ (a = i ∧ b < n)
          · rw [if_pos q2]
          · rw [if_neg q2]
            have s1 : lz_T n f a b = none := lz_T_out (by omega)
            have s3 : lz_T n f (lr_op k) b = none := lz_T_out (by omega)
            show _ = lr_mn _ (lr_ad _ _)
            rw [s1, s3]; cases lz_T n f a k <;> rfl
        · rw [if_neg q, if_neg (by omega)]
    · show lz_T n f = _
      funext a b; rw [if_neg (by omega)]
  have h : lz_T n (lr_chain f n k) = fun a b => if a < n then lr_step k (lz_T n f) a b else lz_T n f a b := h
  rw [h]; funext a b
  by_cases q : a < n
  · rw [if_pos q]
  · rw [if_neg q]
    have s1 : lz_T n f a b = none := lz_T_out (by omega)
    show _ = lr_mn _ (lr_ad _ _)
    rw [s1, lz_T_out (i := a) (j := k) (by omega)]; rfl
