/-! the reference's closing: a pass -/
def lq_low (N : Nat) (X C : lr_M) : Prop := ∀ Y, lr_Cl N Y → lr_LE (2 * N) Y X → lr_LE (2 * N) Y C
theorem lq_low.up {N i k : Nat} {X C : lr_M} {c : Option Int} (hi : i < 2 * N) (hk : k < 2 * N) (h : lq_low N X C) (hc : ∀ Y, lr_Cl N Y → lr_LE (2 * N) Y C → lr_le (Y i k) c) : lq_low N X (lq_up C i k c) := fun Y hY hYX x hx y hy => by
  have h1 := h Y hY hYX
  rcases lq_up_or (C := C) (i := i) (k := k) (x := x) (y := y) (c := c) with ⟨q, e⟩ | ⟨_, e⟩ <;> rw [e]
  · rcases q with ⟨rfl, rfl⟩ | ⟨rfl, rfl⟩
    · exact hc Y hY h1
    · rw [hY.1 _ hx _ hy]; exact hc Y hY h1
  · exact h1 x hx y hy
theorem lq_low.st {N i j k : Nat} {X C : lr_M} (hi : i < 2 * N) (hj : j < 2 * N) (hk : k < 2 * N) (h : lq_low N X C) : lq_low N X (lq_up C i k (lr_ad (C i j) (C (lr_op j) k))) :=
  h.up hi hk (fun Y hY h1 => lr_le_trans (hY.2.2.1 j hj i hi k hk) (lr_ad_le (h1 i hi j hj) (h1 _ (lr_op_lt hj) k hk)))
theorem lq_nle {a b : Option Int} (h : ¬ lr_le a b) : lr_le b a := by
  cases a <;> cases b <;> simp_all [lr_le]; omega
theorem lq_up_le {m i k : Nat} {C : lr_M} {c : Option Int} (hs : lr_Sym m C) (hi : i < m) (hk : k < m) (h : lr_le c (C i k)) : lr_LE m (lq_up C i k c) C := fun x hx y hy => by
  rcases lq_up_or (C := C) (i := i) (k := k) (x := x) (y := y) (c := c) with ⟨q, e⟩ | ⟨_, e⟩ <;> rw [e]
  · rcases q with ⟨rfl, rfl⟩ | ⟨rfl, rfl⟩
    · exact h
    · rw [hs _ hx _ hy]; exact h
  · exact lr_le_refl _
theorem lq_LE.trans {m : Nat} {A B C : lr_M} (h : lr_LE m A B) (k : lr_LE m B C) : lr_LE m A C := fun x hx y hy => lr_le_trans (h x hx y hy) (k x hx y hy)
theorem lz_pivot {N j : Nat} {F0 : Nat → Int64} {g : Int32} {B X : lr_M} {M : Int} (hN : N ≤ 5) (hj : j < 2 * N) (hBs : lr_Sym (2 * N) B) (hB : lz_B M B) (h0 : 0 ≤ M) (hM : 4 * M < 4611686018427387904) (hab : lr_le (some 0) (lr_ad (B j j) (B (lr_op j) (lr_op j)))) (hG : lq_G (2 * N) B M j (lz_D (2 * N) F0)) (hl : lq_low N X (lz_D (2 * N) F0)) : lq_G (2 * N) B M j (lz_D (2 * N) (lm_I (2 * N) j (2 * N) (F0, g)).1) ∧ lq_low N X (lz_D (2 * N) (lm_I (2 * N) j (2 * N) (F0, g)).1) ∧ lr_LE (2 * N) (lz_D (2 * N) (lm_I (2 * N) j (2 * N) (F0, g)).1) (lr_step j (lz_D (2 * N) F0)) := by
  have ho := lr_op_lt hj
  have key := lr_it_all2 (P := fun z : lm_S => lq_G (2 * N) B M j (lz_D (2 * N) z.1) ∧ lq_low N X (lz_D (2 * N) z.1) ∧ lr_LE (2 * N) (lz_D (2 * N) z.1) (lz_D (2 * N) F0)) (Q := fun i k z => lr_le (lz_D (2 * N) z.1 i k) (lr_ad (lz_D (2 * N) F0 i j) (lz_D (2 * N) F0 (lr_op j) k))) (f := fun i k z => lm_k i j k z) (n := 2 * N) (m := 2 * N) (a := (F0, g)) ?_ ?_ ?_ ⟨hG, hl, fun _ _ _ _ => lr_le_refl _⟩
  · obtain ⟨⟨k1, k2, k3⟩, k4⟩ := key
    exact ⟨k1, k2, fun i hi k hk => lr_mn_g (k3 i hi k hk) (k4 i hi k hk)⟩
  · intro i hi k hk z ⟨p1, p2, p3⟩
    rcases lz_k (z := z) (by omega) hi hj ho hk (p1.b4 hj ho hB h0 hi hk) (p1.j2 hj ho hB h0 hi) (p1.o2 hj ho hB h0 hk) (by omega) (by omega) with ⟨_, e⟩ | ⟨hn, e⟩
    · rw [e]; exact ⟨p1, p2, p3⟩
    · show lq_G (2 * N) B M j (lz_D (2 * N) (lm_k i j k z).1) ∧ lq_low N X (lz_D (2 * N) (lm_k i j k z).1) ∧ lr_LE (2 * N) (lz_D (2 * N) (lm_k i j k z).1) (lz_D (2 * N) F0)
      rw [e]
      exact ⟨p1.st hi hj ho hk hBs hB h0 hab hn, p2.st hi hj hk, lq_LE.trans (lq_up_le p1.1 hi hk (lq_nle hn)) p3⟩
  · intro i hi k hk z ⟨p1, p2, p3⟩
    rcases lz_k (z := z) (by omega) hi hj ho hk (p1.b4 hj ho hB h0 hi hk) (p1.j2 hj ho hB h0 hi) (p1.o2 hj ho hB h0 hk) (by omega) (by omega) with ⟨hn, e⟩ | ⟨hn, e⟩
    · rw [e]; exact lr_le_trans hn (lr_ad_le (p3 i hi j hj) (p3 _ ho k hk))
    · show lr_le (lz_D (2 * N) (lm_k i j k z).1 i k) _
      rw [e, lq_up_in]; exact lr_ad_le (p3 i hi j hj) (p3 _ ho k hk)
  · intro x hx y hy i hi k hk z ⟨p1, p2, p3⟩ hq
    rcases lz_k (z := z) (by omega) hi hj ho hk (p1.b4 hj ho hB h0 hi hk) (p1.j2 hj ho hB h0 hi) (p1.o2 hj ho hB h0 hk) (by omega) (by omega) with ⟨hn, e⟩ | ⟨hn, e⟩
    · rw [e]; exact hq
    · show lr_le (lz_D (2 * N) (lm_k i j k z).1 x y) _
      rw [e]; exact lr_le_trans (lq_up_le p1.1 hi hk (lq_nle hn) x hx y hy) hq
/-- a place and its opposite that contradict each other: seen at once -/
def lq_rs (m : Nat) (F : Nat → Int64) : Prop := ∀ i, i < m → ∀ k, k < m → F (10 * i + k) = F (10 * k + i)
theorem lq_rs_of {m : Nat} {F : Nat → Int64} (h : lr_Sym m (lz_D m F)) : lq_rs m F := fun i hi k hk => by
  have := h i hi k hk
  rw [lz_D_in hi hk, lz_D_in hk hi] at this
  exact lz_v_inj this
theorem lm_k_or (i j k : Nat) (z : lm_S) : lm_k i j k z = z ∨ ∃ v, v < z.1 (10 * i + k) ∧ v = lr_plus (z.1 (10 * i + j)) (z.1 (10 * lr_op j + k)) ∧ (lm_k i j k z).1 = vp_updL (vp_updL z.1 (10 * i + k) v) (10 * k + i) v := by
  unfold lm_k
  by_cases h : z.1 (10 * i + k) ≤ lr_plus (z.1 (10 * i + j)) (z.1 (10 * lr_op j + k))
  · left; exact if_pos h
  · right; rw [if_neg h]; exact ⟨_, Int64.not_le.mp h, rfl, rfl⟩
theorem lm_k_rs {m i j k : Nat} {z : lm_S} (hm : m ≤ 10) (hi : i < m) (hk : k < m) (h : lq_rs m z.1) : lq_rs m (lm_k i j k z).1 := by
  rcases lm_k_or i j k z with e | ⟨v, _, _, e⟩ <;> rw [e]
  · exact h
  · intro x hx y hy
    rw [lm_up2, lm_up2]
    by_cases q : 10 * x + y = 10 * i + k ∨ 10 * x + y = 10 * k + i
    · rw [if_pos q, if_pos (by omega)]
    · rw [if_neg q, if_neg (by omega)]; exact h x hx y hy
theorem lm_k_ng {m i j k a b : Nat} {z : lm_S} (hm : m ≤ 10) (hi : i < m) (hk : k < m) (ha : a < m) (hb : b < m) (h : lq_rs m z.1) (hz : z.1 (10 * a + b) < 0) : (lm_k i j k z).1 (10 * a + b) < 0 := by
  rcases lm_k_or i j k z with e | ⟨v, hv, _, e⟩ <;> rw [e]
  · exact hz
  · rw [lm_up2]
    by_cases q : 10 * a + b = 10 * i + k ∨ 10 * a + b = 10 * k + i
    · rw [if_pos q]
      rcases q with q | q
      · rw [q] at hz; exact Int64.lt_trans hv hz
      · rw [q, ← h i hi k hk] at hz; exact Int64.lt_trans hv hz
    · rw [if_neg q]; exact hz
theorem lz_bad {N j : Nat} {F0 : Nat → Int64} {g : Int32} {M : Int} (hN : N ≤ 5) (hj : j < 2 * N) (hje : j % 2 = 0) (hs : lr_Sym (2 * N) (lz_D (2 * N) F0)) (h00 : lz_D (2 * N) F0 j (lr_op j) = some 0) (hB : lz_B M (lz_D (2 * N) F0)) (hM : M + M < 4611686018427387904) (hab : ¬ lr_le (some 0) (lr_ad (lz_D (2 * N) F0 j j) (lz_D (2 * N) F0 (lr_op j) (lr_op j)))) : lm_neg (2 * N) (lm_I (2 * N) j (2 * N) (F0, g)).1 := by
  have hoe : lr_op j = j + 1 := by unfold lr_op; rw [if_pos hje]
  have ho := lr_op_lt hj
  rw [hoe] at ho
  have hrs := lq_rs_of hs
  have d0 : F0 (10 * (j + 1) + j) = 0 := by
    rw [hoe, lz_D_in hj ho, ← lz_v0] at h00
    rw [← hrs j hj _ ho]; exact lz_v_inj h00
  have hpl : lr_plus (F0 (10 * j + j)) (F0 (10 * (j + 1) + (j + 1))) < 0 := by
    have b1 := hB j j
    have b2 := hB (j + 1) (j + 1)
    rw [hoe] at hab
    have b3 := lz_b_ad b1 b2
    rw [lz_D_in hj hj] at b1 hab b3
    rw [lz_D_in ho ho] at b2 hab b3
    have := lz_plus b1 b2 hM
    rw [lz_neg0 (M := M + M) (by rw [this]; exact b3) hM, this]
    exact hab
  have hplus0 : ∀ c : Int64, lr_plus c 0 = c := fun c => by
    unfold lr_plus
    by_cases q : c = lr_E
    · rw [if_pos (Or.inl q), q]
    · rw [if_neg (by rintro (w | w); exact q w; exact absurd w (by decide))]; simp
  let A : (Nat → Int64) → Prop := fun F => F (10 * j + j) = F0 (10 * j + j) ∧ F (10 * (j + 1) + (j + 1)) = F0 (10 * (j + 1) + (j + 1)) ∧ F (10 * (j + 1) + j) = 0
  have hkeep : ∀ i, i < 2 * N → ∀ k, k < 2 * N → i ≤ j → k ≤ j + 1 → ¬ (i = j ∧ j ≤ k) → ∀ z : lm_S, A z.1 → A (lm_k i j k z).1 := by
    intro i hi k hk h1 h2 h3 z ⟨a1, a2, a3⟩
    rcases lm_k_or i j k z with e | ⟨v, _, _, e⟩ <;> rw [e]
    · exact ⟨a1, a2, a3⟩
    · refine ⟨?_, ?_, ?_⟩ <;> rw [lm_up2, if_neg (by omega)]
      · exact a1
      · exact a2
      · exact a3
  have hkeep' : ∀ i, i < 2 * N → ∀ k, k < 2 * N → i < j → ∀ z : lm_S, A z.1 → A (lm_k i j k z).1 := by
    intro i hi k hk h1 z ⟨a1, a2, a3⟩
    rcases lm_k_or i j k z with e | ⟨v, _, _, e⟩ <;> rw [e]
    · exact ⟨a1, a2, a3⟩
    · refine ⟨?_, ?_, ?_⟩ <;> rw [lm_up2, if_neg (by omega)]
      · exact a1
      · exact a2
      · exact a3
  have key : (fun (i : Nat) (z : lm_S) => lq_rs (2 * N) z.1 ∧ (i ≤ j → A z.1) ∧ (j < i → z.1 (10 * j + (j + 1)) < 0)) (2 * N) (lm_I (2 * N) j (2 * N) (F0, g)) := by
    refine lr_it_ix (P := fun (i : Nat) (z : lm_S) => lq_rs (2 * N) z.1 ∧ (i ≤ j → A z.1) ∧ (j < i → z.1 (10 * j + (j + 1)) < 0)) (fun i hi z ⟨p1, p2, p3⟩ => ?_) ⟨hrs, fun _ => ⟨rfl, rfl, d0⟩, fun q => absurd q (by omega)⟩
    show lq_rs (2 * N) (lm_K i j (2 * N) z).1 ∧ (i + 1 ≤ j → A (lm_K i j (2 * N) z).1) ∧ (j < i + 1 → (lm_K i j (2 * N) z).1 (10 * j + (j + 1)) < 0)
    have r1 : lq_rs (2 * N) (lm_K i j (2 * N) z).1 := lr_it_inv (P := fun z : lm_S => lq_rs (2 * N) z.1) (f := fun k z => lm_k i j k z) (fun k hk z hz => lm_k_rs (by omega) hi hk hz) p1
    refine ⟨r1, fun q => ?_, fun q => ?_⟩
    · exact lr_it_inv (P := fun z : lm_S => A z.1) (f := fun k z => lm_k i j k z) (fun k hk z hz => hkeep' i hi k hk (by omega) z hz) (p2 (by omega))
    · by_cases e : i = j
      · subst e
        have in1 : (fun (k : Nat) (z : lm_S) => lq_rs (2 * N) z.1 ∧ (k ≤ i + 1 → A z.1) ∧ (i + 1 < k → z.1 (10 * i + (i + 1)) < 0)) (2 * N) (lm_K i i (2 * N) z) := by
          refine lr_it_ix (P := fun (k : Nat) (z : lm_S) => lq_rs (2 * N) z.1 ∧ (k ≤ i + 1 → A z.1) ∧ (i + 1 < k → z.1 (10 * i + (i + 1)) < 0)) (fun k hk y ⟨s1, s2, s3⟩ => ?_) ⟨p1, fun _ => p2 (by omega), fun q => absurd q (by omega)⟩
          refine ⟨lm_k_rs (by omega) hi hk s1, fun q => ?_, fun q => ?_⟩
          · by_cases e2 : k = i
            · subst e2
              have a := s2 (by omega)
              have : lm_k k k k y = y := by
                unfold lm_k
                rw [hoe, a.2.2, hplus0]
                exact if_pos (Int64.le_refl _)
              show A (lm_k k k k y).1
              rw [this]; exact a
            · exact hkeep i hi k hk (by omega) (by omega) (by omega) y (s2 (by omega))
          · by_cases e2 : k = i + 1
            · subst e2
              obtain ⟨a1, a2, a3⟩ := s2 (by omega)
              show (lm_k i i (i + 1) y).1 (10 * i + (i + 1)) < 0
              unfold lm_k
              rw [hoe, a1, a2]
              by_cases w : y.1 (10 * i + (i + 1)) ≤ lr_plus (F0 (10 * i + i)) (F0 (10 * (i + 1) + (i + 1)))
              · rw [if_pos w]
                exact Int64.lt_of_le_of_lt w hpl
              · rw [if_neg w]
                show vp_updL (vp_updL y.1 _ _) _ _ (10 * i + (i + 1)) < 0
                rw [lm_up2, if_pos (Or.inl rfl)]; exact hpl
            · exact lm_k_ng (by omega) hi hk hi ho s1 (s3 (by omega))
        exact in1.2.2 ho
      · exact (lr_it_inv (P := fun z : lm_S => lq_rs (2 * N) z.1 ∧ z.1 (10 * j + (j + 1)) < 0) (f := fun k z => lm_k i j k z) (fun k hk z hz => ⟨lm_k_rs (by omega) hi hk hz.1, lm_k_ng (by omega) hi hk hj ho hz.1 hz.2⟩) ⟨p1, p3 (by omega)⟩).2
  exact ⟨j, hj, by rw [hoe]; exact key.2.2 hj⟩
def lz_3 : Nat → Int
  | 0 => 10000000000000000
  | q + 1 => 3 * lz_3 q
theorem lz_3_le {q : Nat} (h : q ≤ 5) : lz_3 q ≤ 2430000000000000000 := by
  have : ∀ q, q < 6 → lz_3 q ≤ 2430000000000000000 := by decide
  exact this q (by omega)
theorem lz_3_le4 {q : Nat} (h : q ≤ 4) : lz_3 q ≤ 810000000000000000 := by
  have : ∀ q, q < 5 → lz_3 q ≤ 810000000000000000 := by decide
  exact this q (by omega)
theorem lz_3_0 {q : Nat} (h : q ≤ 5) : 0 ≤ lz_3 q := by
  have : ∀ q, q < 6 → 0 ≤ lz_3 q := by decide
  exact this q (by omega)
def lq_H (N : Nat) (M : Int) (C : lr_M) : Prop := lr_Sym (2 * N) C ∧ lz_B M C ∧ ∀ i, i < 2 * N → C i (lr_op i) = some 0
theorem lz_ngP {N : Nat} {F : Nat → Int64} {M : Int} (hB : lz_B M (lz_D (2 * N) F)) (hM : M < 4611686018427387904) : lm_neg (2 * N) F ↔ ∃ i, i < 2 * N ∧ ¬ lr_le (some 0) (lz_D (2 * N) F i (lr_op i)) := by
  constructor
  · rintro ⟨i, hi, h⟩
    refine ⟨i, hi, ?_⟩
    have b := hB i (lr_op i)
    rw [lz_D_in hi (lr_op_lt hi)] at b ⊢
    exact (lz_neg0 b hM).mp h
  · rintro ⟨i, hi, h⟩
    refine ⟨i, hi, ?_⟩
    have b := hB i (lr_op i)
    rw [lz_D_in hi (lr_op_lt hi)] at b h
    exact (lz_neg0 b hM).mpr h
theorem lq_G_of {N j : Nat} {B : lr_M} {M : Int} (hj : j < 2 * N) (h : lq_H N M B) (h0 : 0 ≤ M) : lq_G (2 * N) B M j B :=
  ⟨h.1, fun _ _ _ _ => lr_le_refl _, ⟨rfl, rfl, h.2.2 j hj⟩, fun _ _ _ _ => ⟨Or.inl rfl, Or.inl rfl⟩, fun i _ _ _ k _ _ _ x hx => by have := h.2.1 i k x hx; omega⟩
theorem lz_B_D {m : Nat} {F : Nat → Int64} {M : Int} (h : ∀ i, i < m → ∀ k, k < m → lz_b M (lz_D m F i k)) : lz_B M (lz_D m F) := fun i k => by
  by_cases q : i < m ∧ k < m
  · exact h i q.1 k q.2
  · rw [lz_D_out q]; exact lz_b_n
theorem lr_step_le {m k : Nat} {C D : lr_M} (he : m % 2 = 0) (hk : k < m) (h : lr_LE m C D) : lr_LE m (lr_step k C) (lr_step k D) := fun i hi j hj =>
  lr_mn_g (lr_le_trans (lr_mn_l _ _) (h i hi j hj)) (lr_le_trans (lr_mn_r _ _) (lr_ad_le (h i hi k hk) (h _ (lr_op_lt' he hk) j hj)))
/-- one pair of places -/
theorem lz_pair {N q : Nat} {z : lm_S} {X : lr_M} (hN : N ≤ 5) (hq : 2 * q < 2 * N) (hH : lq_H N (lz_3 q) (lz_D (2 * N) z.1)) (hl : lq_low N X (lz_D (2 * N) z.1)) :
    (¬ lr_le (some 0) (lr_ad (lz_D (2 * N) z.1 (2 * q) (2 * q)) (lz_D (2 * N) z.1 (lr_op (2 * q)) (lr_op (2 * q)))) ∧ lm_neg (2 * N) (lm_I (2 * N) (2 * q) (2 * N) z).1) ∨
    (lz_B (4 * lz_3 q) (lz_D (2 * N) (lm_I (2 * N) (2 * q) (2 * N) z).1) ∧ lq_low N X (lz_D (2 * N) (lm_I (2 * N) (2 * q) (2 * N) z).1) ∧ lr_LE (2 * N) (lz_D (2 * N) (lm_I (2 * N) (2 * q) (2 * N) z).1) (lr_step (2 * q) (lz_D (2 * N) z.1)) ∧
     lz_B (4 * lz_3 q) (lz_D (2 * N) (lm_I (2 * N) (2 * q + 1) (2 * N) (lm_I (2 * N) (2 * q) (2 * N) z)).1) ∧ lq_low N X (lz_D (2 * N) (lm_I (2 * N) (2 * q + 1) (2 * N) (lm_I (2 * N) (2 * q) (2 * N) z)).1) ∧ lr_LE (2 * N) (lz_D (2 * N) (lm_I (2 * N) (2 * q + 1) (2 * N) (lm_I (2 * N) (2 * q) (2 * N) z)).1) (lr_step (2 * q + 1) (lz_D (2 * N) (lm_I (2 * N) (2 * q) (2 * N) z).1)) ∧
     (¬ lm_neg (2 * N) (lm_I (2 * N) (2 * q + 1) (2 * N) (lm_I (2 * N) (2 * q) (2 * N) z)).1 → lq_H N (lz_3 (q + 1)) (lz_D (2 * N) (lm_I (2 * N) (2 * q + 1) (2 * N) (lm_I (2 * N) (2 * q) (2 * N) z)).1))) := by
  obtain ⟨F, g⟩ := z
  have m4 := lz_3_le4 (q := q) (by omega)
  have m0 := lz_3_0 (q := q) (by omega)
  have hop : lr_op (2 * q) = 2 * q + 1 := by unfold lr_op; rw [if_pos (by omega)]
  have hop' : lr_op (2 * q + 1) = 2 * q := by unfold lr_op; rw [if_neg (by omega)]; omega
  have ho1 : 2 * q + 1 < 2 * N := by omega
  by_cases hab : lr_le (some 0) (lr_ad (lz_D (2 * N) F (2 * q) (2 * q)) (lz_D (2 * N) F (lr_op (2 * q)) (lr_op (2 * q))))
  · right
    have G0 := lq_G_of hq hH m0
    obtain ⟨a1, a2, a3⟩ := lz_pivot (g := g) hN hq hH.1 hH.2.1 m0 (by omega) hab G0 hl
    have hab2 : lr_le (some 0) (lr_ad (lz_D (2 * N) F (2 * q + 1) (2 * q + 1)) (lz_D (2 * N) F (lr_op (2 * q + 1)) (lr_op (2 * q + 1)))) := by
      rw [hop', lr_ad_comm]; rw [hop] at hab; exact hab
    have a1' := a1.sw hq (by rw [hop]; omega)
    rw [hop] at a1'
    have hz1 : lm_I (2 * N) (2 * q) (2 * N) (F, g) = ((lm_I (2 * N) (2 * q) (2 * N) (F, g)).1, (lm_I (2 * N) (2 * q) (2 * N) (F, g)).2) := rfl
    obtain ⟨c1, c2, c3⟩ := lz_pivot (g := (lm_I (2 * N) (2 * q) (2 * N) (F, g)).2) hN ho1 hH.1 hH.2.1 m0 (by omega) hab2 a1' a2
    refine ⟨lz_B_D (fun i hi k hk => a1.b4 hq (by rw [hop]; omega) hH.2.1 m0 hi hk), a2, a3, lz_B_D (fun i hi k hk => c1.b4 ho1 (by rw [hop']; omega) hH.2.1 m0 hi hk), c2, c3, fun hng => ⟨c1.1, ?_, ?_⟩⟩
    · refine lz_B_D (fun i hi k hk => ?_)
      have w3 : lz_3 (q + 1) = 3 * lz_3 q := rfl
      rw [w3]
      by_cases e1 : i = 2 * q + 1
      · subst e1; rw [c1.1 _ hi _ hk]; exact lz_b_w (c1.j2 ho1 (by rw [hop']; omega) hH.2.1 m0 hk) (by omega)
      by_cases e2 : i = 2 * q
      · subst e2
        have := c1.o2 ho1 (by rw [hop']; omega) hH.2.1 m0 hk
        rw [hop'] at this
        exact lz_b_w this (by omega)
      by_cases e3 : k = 2 * q + 1
      · subst e3; exact lz_b_w (c1.j2 ho1 (by rw [hop']; omega) hH.2.1 m0 hi) (by omega)
      by_cases e4 : k = 2 * q
      · subst e4
        have := c1.o2 ho1 (by rw [hop']; omega) hH.2.1 m0 hi
        rw [hop'] at this
        rw [c1.1 _ hi _ hk]
        exact lz_b_w this (by omega)
      intro x hx
      have t := c1.2.2.2.2 i hi e1 (by rw [hop']; exact e2) k hk e3 (by rw [hop']; exact e4) x hx
      rw [hop'] at t
      refine ⟨by omega, ?_⟩
      rcases t.2 with t2 | ⟨_, t2⟩
      · exact t2
      · have u1 : lr_le (some x) (lr_ad (lz_D (2 * N) F i (2 * q)) (lz_D (2 * N) F k (2 * q + 1))) := by
          rw [← hx]
          refine lr_le_trans (c3 i hi k hk) (lr_le_trans (lr_mn_l _ _) (lr_le_trans (a3 i hi k hk) (lr_le_trans (lr_mn_r _ _) ?_)))
          rw [hop, hH.1 _ ho1 _ hk]; exact lr_le_refl _
        have u2 : lr_le (some x) (lr_ad (lz_D (2 * N) F i (2 * q + 1)) (lz_D (2 * N) F k (2 * q))) := by
          rw [← hx]
          refine lr_le_trans (c3 i hi k hk) (lr_le_trans (lr_mn_r _ _) (lr_ad_le (a1.2.1 i hi _ ho1) ?_))
          rw [hop', hH.1 _ hk _ hq]; exact a1.2.1 _ hq k hk
        rcases t2 with t2 | t2
        · have b := lz_b_ad (hH.2.1 i (2 * q)) (hH.2.1 k (2 * q + 1))
          cases e : lr_ad (lz_D (2 * N) F i (2 * q)) (lz_D (2 * N) F k (2 * q + 1)) with
          | none => exact absurd e t2
          | some y =>
            have := b y e
            rw [e] at u1
            have u1 : x ≤ y := u1
            omega
        · have b := lz_b_ad (hH.2.1 i (2 * q + 1)) (hH.2.1 k (2 * q))
          cases e : lr_ad (lz_D (2 * N) F i (2 * q + 1)) (lz_D (2 * N) F k (2 * q)) with
          | none => exact absurd e t2
          | some y =>
            have := b y e
            rw [e] at u2
            have u2 : x ≤ y := u2
            omega
    · intro i hi
      have hle := c1.2.1 i hi (lr_op i) (lr_op_lt hi)
      rw [hH.2.2 i hi] at hle
      refine lr_le_anti hle ?_
      have : ¬ ∃ i, i < 2 * N ∧ ¬ lr_le (some 0) (lz_D (2 * N) (lm_I (2 * N) (2 * q + 1) (2 * N) (lm_I (2 * N) (2 * q) (2 * N) (F, g))).1 i (lr_op i)) := fun w => hng ((lz_ngP (M := 4 * lz_3 q) (lz_B_D (fun i hi k hk => c1.b4 ho1 (by rw [hop']; omega) hH.2.1 m0 hi hk)) (by omega)).mpr w)
      exact Classical.byContradiction fun w => this ⟨i, hi, w⟩
  · left
    exact ⟨hab, lz_bad hN hq (by omega) hH.1 (hH.2.2 _ hq) hH.2.1 (by omega) hab⟩
