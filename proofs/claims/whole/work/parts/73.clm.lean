/-! CLOSING, as the reference does it: cells change in place, both orders at once -/
def lz_D (m : Nat) (F : Nat → Int64) : lr_M := fun i k => if i < m ∧ k < m then lz_v (F (10 * i + k)) else none
theorem lz_D_in {m i k : Nat} {F : Nat → Int64} (hi : i < m) (hk : k < m) : lz_D m F i k = lz_v (F (10 * i + k)) := if_pos ⟨hi, hk⟩
theorem lz_D_out {m i k : Nat} {F : Nat → Int64} (h : ¬ (i < m ∧ k < m)) : lz_D m F i k = none := if_neg h
theorem lz_D_dg {m i : Nat} {F : Nat → Int64} (hi : i < m) : lz_D m F i i = lz_v (F (11 * i)) := by
  rw [lz_D_in hi hi, show 10 * i + i = 11 * i by omega]
def lq_up (C : lr_M) (i k : Nat) (c : Option Int) : lr_M := fun x y => if (x = i ∧ y = k) ∨ (x = k ∧ y = i) then c else C x y
theorem lq_up_in {C : lr_M} {i k : Nat} {c : Option Int} : lq_up C i k c i k = c := if_pos (Or.inl ⟨rfl, rfl⟩)
theorem lq_up_sy {C : lr_M} {i k : Nat} {c : Option Int} : lq_up C i k c k i = c := if_pos (Or.inr ⟨rfl, rfl⟩)
theorem lq_up_ne {C : lr_M} {i k x y : Nat} {c : Option Int} (h : ¬ ((x = i ∧ y = k) ∨ (x = k ∧ y = i))) : lq_up C i k c x y = C x y := if_neg h
theorem lq_up_or {C : lr_M} {i k x y : Nat} {c : Option Int} : (((x = i ∧ y = k) ∨ (x = k ∧ y = i)) ∧ lq_up C i k c x y = c) ∨ (¬ ((x = i ∧ y = k) ∨ (x = k ∧ y = i)) ∧ lq_up C i k c x y = C x y) := by
  by_cases h : (x = i ∧ y = k) ∨ (x = k ∧ y = i)
  · exact Or.inl ⟨h, if_pos h⟩
  · exact Or.inr ⟨h, if_neg h⟩
theorem lz_up {m i k : Nat} {F : Nat → Int64} {v : Int64} (hm : m ≤ 10) (hi : i < m) (hk : k < m) : lz_D m (vp_updL (vp_updL F (10 * i + k) v) (10 * k + i) v) = lq_up (lz_D m F) i k (lz_v v) := by
  funext x y
  by_cases h : x < m ∧ y < m
  · rw [lz_D_in h.1 h.2, lm_up2]
    by_cases q : 10 * x + y = 10 * i + k ∨ 10 * x + y = 10 * k + i
    · rw [if_pos q]; unfold lq_up; rw [if_pos (by omega)]
    · rw [if_neg q, lq_up_ne (by omega), lz_D_in h.1 h.2]
  · rw [lz_D_out h, lq_up_ne (by rintro (⟨rfl, rfl⟩ | ⟨rfl, rfl⟩) <;> exact h ⟨by omega, by omega⟩), lz_D_out h]
theorem lz_k {m i j k : Nat} {z : lm_S} {Ma Mb Mc : Int} (hm : m ≤ 10) (hi : i < m) (hj : j < m) (ho : lr_op j < m) (hk : k < m) (b1 : lz_b Ma (lz_D m z.1 i k)) (b2 : lz_b Mb (lz_D m z.1 i j)) (b3 : lz_b Mc (lz_D m z.1 (lr_op j) k)) (h1 : Ma < 4611686018427387904) (h2 : Mb + Mc < 4611686018427387904) : (lr_le (lz_D m z.1 i k) (lr_ad (lz_D m z.1 i j) (lz_D m z.1 (lr_op j) k)) ∧ lm_k i j k z = z) ∨ (¬ lr_le (lz_D m z.1 i k) (lr_ad (lz_D m z.1 i j) (lz_D m z.1 (lr_op j) k)) ∧ lz_D m (lm_k i j k z).1 = lq_up (lz_D m z.1) i k (lr_ad (lz_D m z.1 i j) (lz_D m z.1 (lr_op j) k))) := by
  have b4 := lz_b_ad b2 b3
  rw [lz_D_in hi hk] at b1
  rw [lz_D_in hi hj] at b2
  rw [lz_D_in ho hk] at b3
  have hp := lz_plus b2 b3 h2
  rw [← lz_D_in hi hj, ← lz_D_in ho hk] at hp
  have hle := lz_le (c := z.1 (10 * i + k)) (d := lr_plus (z.1 (10 * i + j)) (z.1 (10 * lr_op j + k))) b1 (by rw [hp]; exact b4) h1 h2
  rw [hp, ← lz_D_in hi hk] at hle
  unfold lm_k
  by_cases h : z.1 (10 * i + k) ≤ lr_plus (z.1 (10 * i + j)) (z.1 (10 * lr_op j + k))
  · left; exact ⟨hle.mp h, if_pos h⟩
  · right
    refine ⟨fun q => h (hle.mpr q), ?_⟩
    rw [if_neg h]
    show lz_D m (vp_updL (vp_updL z.1 (10 * i + k) _) (10 * k + i) _) = _
    rw [lz_up hm hi hk, hp]
theorem lr_it_all {α : Type} {P : α → Prop} {Q : Nat → α → Prop} {f : Nat → α → α} : ∀ {n : Nat}, (∀ i, i < n → ∀ a, P a → P (f i a)) → (∀ i, i < n → ∀ a, P a → Q i (f i a)) → (∀ q, q < n → ∀ i, i < n → ∀ a, P a → Q q a → Q q (f i a)) → ∀ {a : α}, P a → P (lr_it f n a) ∧ ∀ i, i < n → Q i (lr_it f n a)
  | 0, _, _, _, _, h => ⟨h, fun i hi => absurd hi (by omega)⟩
  | n + 1, hP, hQ, hK, _, h => by
    obtain ⟨h1, h2⟩ := lr_it_all (P := P) (Q := Q) (f := f) (n := n) (fun i hi => hP i (by omega)) (fun i hi => hQ i (by omega)) (fun q hq i hi => hK q (by omega) i (by omega)) h
    refine ⟨hP n (by omega) _ h1, fun i hi => ?_⟩
    by_cases q : i = n
    · subst q; exact hQ i (by omega) _ h1
    · exact hK i hi n (by omega) _ h1 (h2 i (by omega))
theorem lr_it_all2 {α : Type} {P : α → Prop} {Q : Nat → Nat → α → Prop} {f : Nat → Nat → α → α} {n m : Nat} (hP : ∀ i, i < n → ∀ k, k < m → ∀ a, P a → P (f i k a)) (hQ : ∀ i, i < n → ∀ k, k < m → ∀ a, P a → Q i k (f i k a)) (hK : ∀ x, x < n → ∀ y, y < m → ∀ i, i < n → ∀ k, k < m → ∀ a, P a → Q x y a → Q x y (f i k a)) {a : α} (h : P a) : P (lr_it (fun i a => lr_it (fun k a => f i k a) m a) n a) ∧ ∀ i, i < n → ∀ k, k < m → Q i k (lr_it (fun i a => lr_it (fun k a => f i k a) m a) n a) := by
  refine lr_it_all (P := P) (Q := fun i a => ∀ k, k < m → Q i k a) (f := fun i a => lr_it (fun k a => f i k a) m a) ?_ ?_ ?_ h
  · intro i hi a ha
    exact lr_it_inv (fun k hk a ha => hP i hi k hk a ha) ha
  · intro i hi a ha
    exact (lr_it_all (P := P) (Q := fun k a => Q i k a) (f := fun k a => f i k a) (fun k hk a ha => hP i hi k hk a ha) (fun k hk a ha => hQ i hi k hk a ha) (fun q hq k hk a ha hqa => hK i hi q hq i hi k hk a ha hqa) ha).2
  · intro x hx i hi a ha hqa y hy
    exact (lr_it_inv (P := fun a => P a ∧ Q x y a) (f := fun k a => f i k a) (fun k hk a h => ⟨hP i hi k hk a h.1, hK x hx y hy i hi k hk a h.1 h.2⟩) ⟨ha, hqa y hy⟩).2
/-- WHAT A PAIR OF PLACES j AND ITS OPPOSITE DOES: B before it, C on the way -/
def lq_G (m : Nat) (B : lr_M) (M : Int) (j : Nat) (C : lr_M) : Prop := lr_Sym m C ∧ lr_LE m C B ∧ (C j j = B j j ∧ C (lr_op j) (lr_op j) = B (lr_op j) (lr_op j) ∧ C j (lr_op j) = some 0) ∧ (∀ i, i < m → i ≠ j → i ≠ lr_op j → (C i j = B i j ∨ C i j = lr_ad (B j j) (B i (lr_op j))) ∧ (C i (lr_op j) = B i (lr_op j) ∨ C i (lr_op j) = lr_ad (B (lr_op j) (lr_op j)) (B i j))) ∧ (∀ i, i < m → i ≠ j → i ≠ lr_op j → ∀ k, k < m → k ≠ j → k ≠ lr_op j → ∀ x, C i k = some x → -(3 * M) ≤ x ∧ (x ≤ 3 * M ∨ (x ≤ 4 * M ∧ (¬ lr_ad (B i (lr_op j)) (B k j) = none ∨ ¬ lr_ad (B i j) (B k (lr_op j)) = none))))
theorem lq_G.sw {m j : Nat} {B C : lr_M} {M : Int} (hj : j < m) (ho : lr_op j < m) (h : lq_G m B M j C) : lq_G m B M (lr_op j) C := by
  obtain ⟨h1, h2, ⟨h3, h4, h5⟩, h6, h7⟩ := h
  unfold lq_G
  rw [lr_op_op]
  refine ⟨h1, h2, ⟨h4, h3, by rw [h1 _ ho _ hj]; exact h5⟩, fun i hi ha hb => ?_, fun i hi ha hb k hk hc hd x hx => ?_⟩
  · have := h6 i hi hb ha
    exact ⟨this.2, this.1⟩
  · have := h7 i hi hb ha k hk hd hc x hx
    refine ⟨this.1, this.2.imp_right (fun q => ⟨q.1, q.2.symm⟩)⟩
theorem lq_u2 {M : Int} {a b c : Option Int} (ha : lz_b M b) (hb : lz_b M c) (hw : lz_b M a) (h0 : 0 ≤ M) {x : Option Int} (h : x = a ∨ x = lr_ad b c) : lz_b (2 * M) x := by
  rcases h with h | h <;> rw [h]
  · exact lz_b_w hw (by omega)
  · have := lz_b_ad ha hb
    exact lz_b_w this (by omega)
theorem lq_G.j2 {m j : Nat} {B C : lr_M} {M : Int} (hj : j < m) (ho : lr_op j < m) (h : lq_G m B M j C) (hB : lz_B M B) (h0 : 0 ≤ M) {i : Nat} (hi : i < m) : lz_b (2 * M) (C i j) := by
  obtain ⟨h1, h2, ⟨h3, h4, h5⟩, h6, h7⟩ := h
  by_cases e1 : i = j
  · subst e1; rw [h3]; exact lz_b_w (hB _ _) (by omega)
  by_cases e2 : i = lr_op j
  · subst e2; rw [h1 _ ho _ hj, h5]; exact lz_b_s.mpr (by omega)
  exact lq_u2 (hB _ _) (hB _ _) (hB _ _) h0 (h6 i hi e1 e2).1
theorem lq_G.o2 {m j : Nat} {B C : lr_M} {M : Int} (hj : j < m) (ho : lr_op j < m) (h : lq_G m B M j C) (hB : lz_B M B) (h0 : 0 ≤ M) {k : Nat} (hk : k < m) : lz_b (2 * M) (C (lr_op j) k) := by
  rw [h.1 _ ho _ hk]
  have := lq_G.j2 ho (by rw [lr_op_op]; exact hj) (h.sw hj ho) hB h0 hk
  exact this
theorem lq_G.b4 {m j : Nat} {B C : lr_M} {M : Int} (hj : j < m) (ho : lr_op j < m) (h : lq_G m B M j C) (hB : lz_B M B) (h0 : 0 ≤ M) {i k : Nat} (hi : i < m) (hk : k < m) : lz_b (4 * M) (C i k) := by
  by_cases e1 : i = j
  · subst e1; rw [h.1 _ hi _ hk]; exact lz_b_w (h.j2 hi ho hB h0 hk) (by omega)
  by_cases e2 : i = lr_op j
  · subst e2; exact lz_b_w (h.o2 hj hi hB h0 hk) (by omega)
  by_cases e3 : k = j
  · subst e3; exact lz_b_w (h.j2 hk ho hB h0 hi) (by omega)
  by_cases e4 : k = lr_op j
  · subst e4; rw [h.1 _ hi _ hk]; exact lz_b_w (h.o2 hj hk hB h0 hi) (by omega)
  intro x hx
  have := h.2.2.2.2 i hi e1 e2 k hk e3 e4 x hx
  omega
theorem lq_nn {a b x : Option Int} (h : lr_le (some 0) (lr_ad a b)) : lr_le x (lr_ad a (lr_ad b x)) := by
  rw [← lr_ad_assoc]; exact lr_ql h
theorem lq_c5 {M : Int} {a b ui vi uk vk x y : Option Int} (ha : lz_b M a) (hb : lz_b M b) (h1 : lz_b M ui) (h2 : lz_b M vi) (h3 : lz_b M uk) (h4 : lz_b M vk) (h0 : 0 ≤ M) (hab : lr_le (some 0) (lr_ad a b)) (hx : x = ui ∨ x = lr_ad a vi) (hy : y = vk ∨ y = lr_ad b uk) : ∀ z, lr_ad x y = some z → -(3 * M) ≤ z ∧ (z ≤ 3 * M ∨ (z ≤ 4 * M ∧ (¬ lr_ad vi uk = none ∨ ¬ lr_ad ui vk = none))) := by
  intro z hz
  cases a with
  | none => simp [lr_ad] at hx; cases b with
    | none => 
      simp [lr_ad] at hy
      rcases hx with rfl | rfl
      · rcases hy with rfl | rfl
        · have := lz_b_ad h1 h4 z hz; omega
        · cases x <;> simp [lr_ad] at hz
      · simp [lr_ad] at hz
    | some b =>
      rcases hx with rfl | rfl
      · rcases hy with rfl | rfl
        · have := lz_b_ad h1 h4 z hz; omega
        · have := lz_b_ad h1 (lz_b_ad hb h3) z hz; omega
      · simp [lr_ad] at hz
  | some a => cases b with
    | none =>
      simp [lr_ad] at hy
      rcases hy with rfl | rfl
      · rcases hx with rfl | rfl
        · have := lz_b_ad h1 h4 z hz; omega
        · have := lz_b_ad (lz_b_ad ha h2) h4 z hz; omega
      · cases x <;> simp [lr_ad] at hz
    | some b =>
      have hab : 0 ≤ a + b := hab
      rcases hx with rfl | rfl <;> rcases hy with rfl | rfl
      · have := lz_b_ad h1 h4 z hz; omega
      · have := lz_b_ad h1 (lz_b_ad hb h3) z hz; omega
      · have := lz_b_ad (lz_b_ad ha h2) h4 z hz; omega
      · cases vi with
        | none => simp [lr_ad] at hz
        | some v =>
          cases uk with
          | none => simp [lr_ad] at hz
          | some u =>
            simp [lr_ad] at hz
            have := ha a rfl
            have := hb b rfl
            have := h2 v rfl
            have := h3 u rfl
            refine ⟨by omega, Or.inr ⟨by omega, Or.inl (by simp [lr_ad])⟩⟩
theorem lq_G.st {m i j k : Nat} {B C : lr_M} {M : Int} (hi : i < m) (hj : j < m) (ho : lr_op j < m) (hk : k < m) (h : lq_G m B M j C) (hBs : lr_Sym m B) (hB : lz_B M B) (h0 : 0 ≤ M) (hab : lr_le (some 0) (lr_ad (B j j) (B (lr_op j) (lr_op j)))) (hn : ¬ lr_le (C i k) (lr_ad (C i j) (C (lr_op j) k))) : lq_G m B M j (lq_up C i k (lr_ad (C i j) (C (lr_op j) k))) := by
  have hG := h
  obtain ⟨h1, h2, ⟨h3, h4, h5⟩, h6, h7⟩ := h
  have hjo : lr_op j ≠ j := lr_op_ne j
  have h5' : C (lr_op j) j = some 0 := by rw [h1 _ ho _ hj]; exact h5
  have ad0 : ∀ x : Option Int, lr_ad (some 0) x = x := fun x => by cases x <;> simp [lr_ad]
  have ad0' : ∀ x : Option Int, lr_ad x (some 0) = x := fun x => by cases x <;> simp [lr_ad]
  have eio : i ≠ lr_op j := fun e => by
    subst e; apply hn; rw [h5', ad0]; exact lr_le_refl _
  have ekj : k ≠ j := fun e => by
    subst e; apply hn; rw [h5', ad0']; exact lr_le_refl _
  have hij : ¬ (i = j ∧ k = lr_op j) := fun ⟨e1, e2⟩ => by
    subst e1; subst e2; apply hn; rw [h3, h4, h5]; exact hab
  have hsym : lr_Sym m (lq_up C i k (lr_ad (C i j) (C (lr_op j) k))) := fun x hx y hy => by
    unfold lq_up
    by_cases q : (x = i ∧ y = k) ∨ (x = k ∧ y = i)
    · rw [if_pos q, if_pos (by omega)]
    · rw [if_neg q, if_neg (by omega)]; exact h1 x hx y hy
  have hle : lr_le (lr_ad (C i j) (C (lr_op j) k)) (C i k) := by
    generalize lr_ad (C i j) (C (lr_op j) k) = y at *
    generalize C i k = x at *
    cases x <;> cases y <;> simp_all [lr_le]; omega
  have hLE : lr_LE m (lq_up C i k (lr_ad (C i j) (C (lr_op j) k))) B := fun x hx y hy => by
    rcases lq_up_or (C := C) (i := i) (k := k) (x := x) (y := y) (c := lr_ad (C i j) (C (lr_op j) k)) with ⟨q, e⟩ | ⟨_, e⟩ <;> rw [e]
    · rcases q with ⟨rfl, rfl⟩ | ⟨rfl, rfl⟩
      · exact lr_le_trans hle (h2 _ hx _ hy)
      · rw [hBs _ hx _ hy]
        exact lr_le_trans hle (h2 _ hy _ hx)
    · exact h2 x hx y hy
  refine ⟨hsym, hLE, ⟨?_, ?_, ?_⟩, ?_, ?_⟩
  · rw [lq_up_ne (by omega)]; exact h3
  · rw [lq_up_ne (by omega)]; exact h4
  · rw [lq_up_ne (by omega)]; exact h5
  · intro x hx e1 e2
    obtain ⟨g1, g2⟩ := h6 x hx e1 e2
    constructor
    · rcases lq_up_or (C := C) (i := i) (k := k) (x := x) (y := j) (c := lr_ad (C i j) (C (lr_op j) k)) with ⟨q, e⟩ | ⟨_, e⟩
      · rw [e]
        have q : x = k ∧ j = i := by omega
        obtain ⟨rfl, rfl⟩ := q
        have := (h6 x hx e1 e2).2
        rw [h3, h1 _ ho _ hx]
        rcases this with t | t
        · right; rw [t]
        · exfalso; apply hn
          rw [h3, h1 _ ho _ hx, t]
          refine lr_le_trans ?_ (lq_nn hab)
          rw [h1 _ hi _ hx]; exact h2 x hx j hj
      · rw [e]; exact g1
    · rcases lq_up_or (C := C) (i := i) (k := k) (x := x) (y := lr_op j) (c := lr_ad (C i j) (C (lr_op j) k)) with ⟨q, e⟩ | ⟨_, e⟩
      · rw [e]
        have q' : x = i ∧ lr_op j = k := by omega
        obtain ⟨rfl, q2⟩ := q'
        subst q2
        rw [h4]
        rcases g1 with t | t
        · right; rw [t, lr_ad_comm]
        · exfalso; apply hn
          rw [h4, t, lr_ad_comm]
          refine lr_le_trans (h2 x hx _ ho) (lq_nn ?_)
          rw [lr_ad_comm]; exact hab
      · rw [e]; exact g2
  · intro x hx e1 e2 y hy e3 e4 z hz
    rcases lq_up_or (C := C) (i := i) (k := k) (x := x) (y := y) (c := lr_ad (C i j) (C (lr_op j) k)) with ⟨q, e⟩ | ⟨_, e⟩
    · rw [e] at hz
      have ei : i ≠ j := by omega
      have ek : k ≠ lr_op j := by omega
      have c5 := lq_c5 (a := B j j) (b := B (lr_op j) (lr_op j)) (ui := B i j) (vi := B i (lr_op j)) (uk := B k j) (vk := B k (lr_op j)) (hB _ _) (hB _ _) (hB _ _) (hB _ _) (hB _ _) (hB _ _) h0 hab (h6 i hi ei eio).1 (by rw [h1 _ ho _ hk]; exact (h6 k hk ekj ek).2) z hz
      rcases q with ⟨rfl, rfl⟩ | ⟨rfl, rfl⟩
      · exact c5
      · refine ⟨c5.1, c5.2.imp_right (fun q => ⟨q.1, q.2.symm.imp (fun w => ?_) (fun w => ?_)⟩)⟩
        · rw [lr_ad_comm]; exact w
        · rw [lr_ad_comm]; exact w
    · rw [e] at hz; exact h7 x hx e1 e2 y hy e3 e4 z hz
