/-! the reference's closing: what it gives -/
theorem lz_pass {N : Nat} {z0 : lm_S} {X : lr_M} (hN : N ≤ 5) (hX : lz_D (2 * N) z0.1 = X) (hH : lq_H N (lz_3 0) X) : ∀ q, q ≤ N → (∀ j, j < 2 * q → ¬ lm_neg (2 * N) (lm_P (2 * N) (j + 1) z0).1) → lq_H N (lz_3 q) (lz_D (2 * N) (lm_P (2 * N) (2 * q) z0).1) ∧ lq_low N X (lz_D (2 * N) (lm_P (2 * N) (2 * q) z0).1) ∧ ∀ k, k ≤ 2 * q → lr_LE (2 * N) (lz_D (2 * N) (lm_P (2 * N) k z0).1) (lr_fw X k) ∧ lz_B 3240000000000000000 (lz_D (2 * N) (lm_P (2 * N) k z0).1)
  | 0, _, _ => by
    refine ⟨by rw [show lm_P (2 * N) (2 * 0) z0 = z0 from rfl, hX]; exact hH, by rw [show lm_P (2 * N) (2 * 0) z0 = z0 from rfl, hX]; exact fun Y _ h => h, fun k hk => ?_⟩
    have : k = 0 := by omega
    subst this
    rw [show lm_P (2 * N) 0 z0 = z0 from rfl, hX]
    exact ⟨fun _ _ _ _ => lr_le_refl _, fun i j => lz_b_w (hH.2.1 i j) (by decide)⟩
  | q + 1, hq, hn => by
    obtain ⟨i1, i2, i3⟩ := lz_pass hN hX hH q (by omega) (fun j hj => hn j (by omega))
    have m4 := lz_3_le4 (q := q) (by omega)
    have n1 := hn (2 * q) (by omega)
    have n2 := hn (2 * q + 1) (by omega)
    rcases lz_pair hN (by omega) i1 i2 with ⟨_, h⟩ | ⟨a1, a2, a3, c1, c2, c3, c4⟩
    · exact absurd h n1
    · have hprev := (i3 (2 * q) (Nat.le_refl _)).1
      have l1 : lr_LE (2 * N) (lz_D (2 * N) (lm_P (2 * N) (2 * q + 1) z0).1) (lr_fw X (2 * q + 1)) := lq_LE.trans a3 (lr_step_le (by omega) (by omega) hprev)
      have l2 : lr_LE (2 * N) (lz_D (2 * N) (lm_P (2 * N) (2 * q + 1 + 1) z0).1) (lr_fw X (2 * q + 1 + 1)) := lq_LE.trans c3 (lr_step_le (by omega) (by omega) l1)
      refine ⟨c4 n2, c2, fun k hk => ?_⟩
      rcases Nat.lt_or_ge (2 * q) k with w | w
      · rcases Nat.lt_or_ge (2 * q + 1) k with w2 | w2
        · have : k = 2 * q + 1 + 1 := by omega
          subst this
          exact ⟨l2, fun i j => lz_b_w (c1 i j) (by omega)⟩
        · have : k = 2 * q + 1 := by omega
          subst this
          exact ⟨l1, fun i j => lz_b_w (a1 i j) (by omega)⟩
      · exact i3 k w
/-- where there is a closed matrix below, no pass fails -/
theorem lz_noneg {N : Nat} {z0 : lm_S} {X Y : lr_M} (hN : N ≤ 5) (hX : lz_D (2 * N) z0.1 = X) (hH : lq_H N (lz_3 0) X) (hY : lr_Cl N Y) (hYX : lr_LE (2 * N) Y X) : ∀ q, q ≤ N → ∀ j, j < 2 * q → ¬ lm_neg (2 * N) (lm_P (2 * N) (j + 1) z0).1
  | 0, _, j, hj => absurd hj (by omega)
  | q + 1, hq, j, hj => by
    have ih := lz_noneg hN hX hH hY hYX q (by omega)
    obtain ⟨i1, i2, i3⟩ := lz_pass hN hX hH q (by omega) ih
    have m4 := lz_3_le4 (q := q) (by omega)
    have hlow : ∀ {F : Nat → Int64} {M : Int}, lz_B M (lz_D (2 * N) F) → M < 4611686018427387904 → lq_low N X (lz_D (2 * N) F) → ¬ lm_neg (2 * N) F := fun hB hM hl hneg => by
      obtain ⟨i, hi, hc⟩ := (lz_ngP hB hM).mp hneg
      apply hc
      rw [← hY.2.1 i hi]
      exact hl Y hY hYX i hi _ (lr_op_lt hi)
    rcases lz_pair hN (by omega) i1 i2 with ⟨hab, _⟩ | ⟨a1, a2, a3, c1, c2, c3, c4⟩
    · exfalso; apply hab
      have hq2 : 2 * q < 2 * N := by omega
      have g1 := i2 Y hY hYX (2 * q) hq2 _ hq2
      have g2 := i2 Y hY hYX _ (lr_op_lt hq2) _ (lr_op_lt hq2)
      refine lr_le_trans ?_ (lr_ad_le g1 g2)
      have := hY.2.2.2.2 _ hq2 _ (lr_op_lt hq2)
      rw [hY.2.1 _ hq2] at this
      exact this
    · rcases Nat.lt_or_ge j (2 * q) with w | w
      · exact ih j w
      · rcases Nat.lt_or_ge (2 * q) j with w2 | w2
        · have : j = 2 * q + 1 := by omega
          subst this
          exact hlow c1 (by omega) c2
        · have : j = 2 * q := by omega
          subst this
          exact hlow a1 (by omega) a2
/-- cutting to even numbers -/
theorem lz_odd {M : Int} {c : Int64} (h : ¬ c = lr_E) (hc : lz_b M (lz_v c)) (hm : M < 4611686018427387903) : (c - c / 2 * 2 = 0 ↔ c.toInt % 2 = 0) ∧ lz_v (2 * lm_half c) = lr_db (lr_hf (lz_v c)) := by
  have a := hc _ (lz_v_s h)
  have e2 : (2 : Int64).toInt = 2 := by decide
  have e1 : (1 : Int64).toInt = 1 := by decide
  have e0 : (0 : Int64).toInt = 0 := by decide
  have hd := lz_div (x := c) (by omega)
  constructor
  · have e3 : (c / 2 * 2).toInt = (c / 2).toInt * 2 := by
      rw [lz_mul, e2]
      · rw [e2, hd]; split <;> omega
      · rw [e2, hd]; split <;> omega
    have e4 : (c - c / 2 * 2).toInt = c.toInt - (c / 2).toInt * 2 := by
      rw [lz_sub, e3]
      · rw [e3, hd]; split <;> omega
      · rw [e3, hd]; split <;> omega
    constructor
    · intro q
      rw [q, e0, hd] at e4
      split at e4 <;> omega
    · intro q
      apply lz_i64
      rw [e4, e0, hd]
      split <;> omega
  · have e3 : (lm_half c).toInt = c.toInt / 2 := by
      unfold lm_half
      by_cases w : c < 0
      · rw [if_pos w]
        have w' := Int64.lt_iff_toInt_lt.mp w
        rw [e0] at w'
        have e5 : (c - 1).toInt = c.toInt - 1 := by rw [lz_sub (by rw [e1]; omega) (by rw [e1]; omega), e1]
        rw [lz_div (by rw [e5]; omega), e5, if_neg (by omega)]
        omega
      · rw [if_neg w]
        have w' := Int64.le_iff_toInt_le.mp (Int64.not_lt.mp w)
        rw [e0] at w'
        rw [hd, if_pos w']
    have e4 : (2 * lm_half c).toInt = 2 * (c.toInt / 2) := by rw [lz_mul (by rw [e3, e2]; omega) (by rw [e3, e2]; omega), e3, e2]
    have h3 : ¬ 2 * lm_half c = lr_E := fun q => by rw [q, lz_ET] at e4; omega
    rw [lz_v_s h3, lz_v_s h, e4]; rfl
theorem lz_E2 {m : Nat} {z : lm_S} {M : Int} (hm : m ≤ 10) (hb : lz_B M (lz_D m z.1)) (hM : M < 4611686018427387903) : lz_D m (lm_E2 m z).1 = lz_ev (lz_D m z.1) := by
  have h : (fun n (y : lm_S) => lz_D m y.1 = fun a b => if a = b ∧ a < n then lr_db (lr_hf (lz_D m z.1 a a)) else lz_D m z.1 a b) m (lm_E2 m z) := by
    refine lr_it_ix (P := fun n (y : lm_S) => lz_D m y.1 = fun a b => if a = b ∧ a < n then lr_db (lr_hf (lz_D m z.1 a a)) else lz_D m z.1 a b) (fun i hi y hy => ?_) ?_
    · have hy : lz_D m y.1 = fun a b => if a = b ∧ a < i then lr_db (lr_hf (lz_D m z.1 a a)) else lz_D m z.1 a b := hy
      have hv : lz_v (y.1 (11 * i)) = lz_D m z.1 i i := by rw [← lz_D_dg hi, hy]; simp
      have hsame : (lr_db (lr_hf (lz_D m z.1 i i)) = lz_D m z.1 i i) → lz_D m y.1 = fun a b => if a = b ∧ a < i + 1 then lr_db (lr_hf (lz_D m z.1 a a)) else lz_D m z.1 a b := fun e => by
        rw [hy]; funext a b
        by_cases q : a = b ∧ a < i
        · rw [if_pos q, if_pos (by omega)]
        · rw [if_neg q]
          by_cases q2 : a = b ∧ a < i + 1
          · rw [if_pos q2]
            have : a = i := by omega
            subst this
            rw [← q2.1]; exact e.symm
          · rw [if_neg q2]
      show lz_D m (lm_e i y).1 = _
      unfold lm_e
      by_cases q : y.1 (11 * i) = lr_E
      · rw [if_pos q]
        apply hsame
        rw [← hv, q, lz_v_E]; rfl
      · have ho := lz_odd q (M := M) (by rw [hv]; exact hb _ _) hM
        rw [if_neg q]
        by_cases q2 : y.1 (11 * i) - y.1 (11 * i) / 2 * 2 = 0
        · rw [if_pos q2]
          apply hsame
          rw [← hv, lz_v_s q]
          have := ho.1.mp q2
          simp [lr_hf, lr_db]; omega
        · rw [if_neg q2]
          show lz_D m (vp_updL y.1 (11 * i) (2 * lm_half (y.1 (11 * i)))) = _
          funext a b
          by_cases hab : a < m ∧ b < m
          · rw [lz_D_in hab.1 hab.2]
            by_cases w : a = i ∧ b = i
            · obtain ⟨w1, w2⟩ := w
              rw [w1, w2, show 10 * i + i = 11 * i by omega, vl_eq, if_pos (by omega), ho.2, hv]
            · rw [vl_ne (by omega), ← lz_D_in hab.1 hab.2, hy]
              simp only
              by_cases w2 : a = b ∧ a < i
              · rw [if_pos w2, if_pos (by omega)]
              · rw [if_neg w2, if_neg (by omega)]
          · rw [lz_D_out hab]
            by_cases w : a = b ∧ a < i + 1
            · exfalso; omega
            · rw [if_neg w, lz_D_out hab]
    · show lz_D m z.1 = _
      funext a b; rw [if_neg (by omega)]
  have h : lz_D m (lm_E2 m z).1 = fun a b => if a = b ∧ a < m then lr_db (lr_hf (lz_D m z.1 a a)) else lz_D m z.1 a b := h
  rw [h]; funext a b; unfold lz_ev
  by_cases w : a = b
  · subst w
    by_cases w2 : a < m
    · rw [if_pos ⟨rfl, w2⟩, if_pos rfl]
    · rw [if_neg (by omega), if_pos rfl, lz_D_out (by omega)]; rfl
  · rw [if_neg (by omega), if_neg w]
/-- adding halves -/
theorem lz_c2 {M : Int} {x y : Int64} (hx : lz_b M (lz_v x)) (hy : lz_b M (lz_v y)) (h0 : 0 ≤ M) (hM : M < 4611686018427387904) (ex : ∀ v, lz_v x = some v → v % 2 = 0) (ey : ∀ v, lz_v y = some v → v % 2 = 0) : lz_v (lm_c2 x y) = lr_ad (lr_hf (lz_v x)) (lr_hf (lz_v y)) ∧ lz_b M (lr_ad (lr_hf (lz_v x)) (lr_hf (lz_v y))) := by
  have hb : lz_b M (lr_ad (lr_hf (lz_v x)) (lr_hf (lz_v y))) := by
    cases e1 : lz_v x with
    | none => exact lz_b_n
    | some a =>
      cases e2 : lz_v y with
      | none => exact lz_b_n
      | some b =>
        have := hx a e1
        have := hy b e2
        have := ex a e1
        have := ey b e2
        exact lz_b_s.mpr (by omega)
  refine ⟨?_, hb⟩
  unfold lm_c2
  by_cases h1 : x = lr_E
  · rw [if_pos (Or.inl h1), h1, lz_v_E]; rfl
  by_cases h2 : y = lr_E
  · rw [if_pos (Or.inr h2), h2, lz_v_E]; cases lr_hf (lz_v x) <;> rfl
  rw [if_neg (by simp [h1, h2])]
  have a := hx _ (lz_v_s h1)
  have b := hy _ (lz_v_s h2)
  have pa := ex _ (lz_v_s h1)
  have pb := ey _ (lz_v_s h2)
  have dx : (x / 2).toInt = x.toInt / 2 := by rw [lz_div (by omega)]; split <;> omega
  have dy : (y / 2).toInt = y.toInt / 2 := by rw [lz_div (by omega)]; split <;> omega
  have e : (x / 2 + y / 2).toInt = x.toInt / 2 + y.toInt / 2 := by rw [lz_add (by rw [dx, dy]; omega) (by rw [dx, dy]; omega), dx, dy]
  have h3 : ¬ x / 2 + y / 2 = lr_E := fun q => by rw [q, lz_ET] at e; omega
  rw [lz_v_s h3, e, lz_v_s h1, lz_v_s h2]; rfl
theorem lq_db2 {x : Option Int} (h : ∀ v, x = some v → v % 2 = 0) : lr_ad (lr_hf x) (lr_hf x) = x := by
  cases x with
  | none => rfl
  | some v => have := h v rfl; simp [lr_hf, lr_ad]; omega
theorem lz_h {m i k : Nat} {z : lm_S} {M : Int} (hm : m ≤ 10) (hi : i < m) (hk : k < m) (hb : lz_B M (lz_D m z.1)) (h0 : 0 ≤ M) (hM : M < 4611686018427387904) (hev : ∀ q, q < m → ∀ v, lz_D m z.1 q q = some v → v % 2 = 0) : (lr_le (lz_D m z.1 i k) (lr_ad (lr_hf (lz_D m z.1 i i)) (lr_hf (lz_D m z.1 k k))) ∧ lm_h i k z = z) ∨ (¬ lr_le (lz_D m z.1 i k) (lr_ad (lr_hf (lz_D m z.1 i i)) (lr_hf (lz_D m z.1 k k))) ∧ lz_D m (lm_h i k z).1 = lq_up (lz_D m z.1) i k (lr_ad (lr_hf (lz_D m z.1 i i)) (lr_hf (lz_D m z.1 k k)))) := by
  have b1 := hb i i
  have b2 := hb k k
  have b3 := hb i k
  have e1 := hev i hi
  have e2 := hev k hk
  rw [lz_D_dg hi] at b1 e1
  rw [lz_D_dg hk] at b2 e2
  rw [lz_D_in hi hk] at b3
  obtain ⟨c1, c2⟩ := lz_c2 b1 b2 h0 hM e1 e2
  have hle := lz_le (c := z.1 (10 * i + k)) (d := lm_c2 (z.1 (11 * i)) (z.1 (11 * k))) b3 (by rw [c1]; exact c2) hM hM
  rw [c1, ← lz_D_dg hi, ← lz_D_dg hk, ← lz_D_in hi hk] at hle
  rw [← lz_D_dg hi, ← lz_D_dg hk] at c1
  unfold lm_h
  by_cases h : z.1 (10 * i + k) ≤ lm_c2 (z.1 (11 * i)) (z.1 (11 * k))
  · left; exact ⟨hle.mp h, if_pos h⟩
  · right
    refine ⟨fun q => h (hle.mpr q), ?_⟩
    rw [if_neg h]
    show lz_D m (vp_updL (vp_updL z.1 (10 * i + k) _) (10 * k + i) _) = _
    rw [lz_up hm hi hk, c1]
theorem lz_H {m n : Nat} {z : lm_S} {M : Int} (hm : m ≤ 10) (hn : n ≤ m) (hs : lr_Sym m (lz_D m z.1)) (hb : lz_B M (lz_D m z.1)) (h0 : 0 ≤ M) (hM : M < 4611686018427387904) (hev : ∀ q, q < m → ∀ v, lz_D m z.1 q q = some v → v % 2 = 0) : (∀ q, q < m → lz_D m (lm_H m n z).1 q q = lz_D m z.1 q q) ∧ (n = m → lz_D m (lm_H m n z).1 = lz_ha (lz_D m z.1)) := by
  have key := lr_it_all2 (P := fun y : lm_S => lr_Sym m (lz_D m y.1) ∧ lz_B M (lz_D m y.1) ∧ (∀ q, q < m → lz_D m y.1 q q = lz_D m z.1 q q) ∧ lr_LE m (lz_D m y.1) (lz_D m z.1) ∧ lr_LE m (lz_ha (lz_D m z.1)) (lz_D m y.1)) (Q := fun i k y => lr_le (lz_D m y.1 i k) (lr_ad (lr_hf (lz_D m z.1 i i)) (lr_hf (lz_D m z.1 k k)))) (f := fun i k y => lm_h i k y) (n := n) (m := m) (a := z) ?_ ?_ ?_ ⟨hs, hb, fun _ _ => rfl, fun _ _ _ _ => lr_le_refl _, fun i hi k hk => ?_⟩
  · obtain ⟨⟨k1, k2, k3, k4, k5⟩, k6⟩ := key
    refine ⟨k3, fun e => ?_⟩
    subst e
    funext i k
    by_cases w : i < n ∧ k < n
    · refine lr_le_anti ?_ (k5 i w.1 k w.2)
      unfold lz_ha
      by_cases q : i = k
      · subst q; rw [if_pos rfl]; exact k4 i w.1 i w.1
      · rw [if_neg q]; exact lr_mn_g (k4 i w.1 k w.2) (k6 i w.1 k w.2)
    · have s1 : lz_D n z.1 i k = none := lz_D_out w
      show lz_D n (lm_H n n z).1 i k = _
      rw [lz_D_out w]
      unfold lz_ha
      by_cases q : i = k
      · rw [if_pos q, lz_D_out (by omega)]
      · rw [if_neg q, s1]
        by_cases w2 : i < n
        · rw [lz_D_out (i := k) (by omega)]; cases lr_hf (lz_D n z.1 i i) <;> rfl
        · rw [lz_D_out (i := i) (k := i) (by omega)]; rfl
  · intro i hi k hk y ⟨p1, p2, p3, p4, p5⟩
    have hi : i < m := by omega
    rcases lz_h (z := y) hm hi hk p2 h0 hM (fun q hq => by rw [p3 q hq]; exact hev q hq) with ⟨_, e⟩ | ⟨hx, e⟩
    · rw [e]; exact ⟨p1, p2, p3, p4, p5⟩
    · show lr_Sym m (lz_D m (lm_h i k y).1) ∧ lz_B M (lz_D m (lm_h i k y).1) ∧ (∀ q, q < m → lz_D m (lm_h i k y).1 q q = lz_D m z.1 q q) ∧ lr_LE m (lz_D m (lm_h i k y).1) (lz_D m z.1) ∧ lr_LE m (lz_ha (lz_D m z.1)) (lz_D m (lm_h i k y).1)
      rw [e]
      have hik : i ≠ k := fun w => by
        subst w; apply hx
        rw [lq_db2 (by rw [p3 i hi]; exact hev i hi)]; exact lr_le_refl _
      have hv : lr_ad (lr_hf (lz_D m y.1 i i)) (lr_hf (lz_D m y.1 k k)) = lr_ad (lr_hf (lz_D m z.1 i i)) (lr_hf (lz_D m z.1 k k)) := by rw [p3 i hi, p3 k hk]
      refine ⟨fun a ha b hb' => ?_, fun a b => ?_, fun q hq => ?_, lq_LE.trans (lq_up_le p1 hi hk (lq_nle hx)) p4, fun a ha b hb' => ?_⟩
      · unfold lq_up
        by_cases w : (a = i ∧ b = k) ∨ (a = k ∧ b = i)
        · rw [if_pos w, if_pos (by omega)]
        · rw [if_neg w, if_neg (by omega)]; exact p1 a ha b hb'
      · rcases lq_up_or (C := lz_D m y.1) (i := i) (k := k) (x := a) (y := b) (c := lr_ad (lr_hf (lz_D m y.1 i i)) (lr_hf (lz_D m y.1 k k))) with ⟨q, e⟩ | ⟨_, e⟩ <;> rw [e]
        · have e1 := hev i hi
          have e2 := hev k hk
          have b1 := hb i i
          have b2 := hb k k
          rw [lz_D_dg hi] at e1 b1
          rw [lz_D_dg hk] at e2 b2
          have := (lz_c2 b1 b2 h0 hM e1 e2).2
          rw [hv, lz_D_dg hi, lz_D_dg hk]; exact this
        · exact p2 a b
      · rw [lq_up_ne (by omega)]; exact p3 q hq
      · rcases lq_up_or (C := lz_D m y.1) (i := i) (k := k) (x := a) (y := b) (c := lr_ad (lr_hf (lz_D m y.1 i i)) (lr_hf (lz_D m y.1 k k))) with ⟨q, e⟩ | ⟨_, e⟩ <;> rw [e]
        · rw [hv]
          unfold lz_ha
          rcases q with ⟨rfl, rfl⟩ | ⟨rfl, rfl⟩
          · rw [if_neg hik]; exact lr_mn_r _ _
          · rw [if_neg (fun w => hik w.symm), lr_ad_comm]; exact lr_mn_r _ _
        · exact p5 a ha b hb'
  · intro i hi k hk y ⟨p1, p2, p3, p4, p5⟩
    have hi : i < m := by omega
    rcases lz_h (z := y) hm hi hk p2 h0 hM (fun q hq => by rw [p3 q hq]; exact hev q hq) with ⟨hx, e⟩ | ⟨hx, e⟩
    · rw [e]; rw [p3 i hi, p3 k hk] at hx; exact hx
    · show lr_le (lz_D m (lm_h i k y).1 i k) _
      rw [e, lq_up_in, p3 i hi, p3 k hk]; exact lr_le_refl _
  · intro a ha b hb' i hi k hk y ⟨p1, p2, p3, p4, p5⟩ hq
    have hi : i < m := by omega
    have ha : a < m := by omega
    rcases lz_h (z := y) hm hi hk p2 h0 hM (fun q hq => by rw [p3 q hq]; exact hev q hq) with ⟨hx, e⟩ | ⟨hx, e⟩
    · rw [e]; exact hq
    · show lr_le (lz_D m (lm_h i k y).1 a b) _
      rw [e]; exact lr_le_trans (lq_up_le p1 hi hk (lq_nle hx) a ha b hb') hq
  · unfold lz_ha
    by_cases q : i = k
    · subst q; rw [if_pos rfl]; exact lr_le_refl _
    · rw [if_neg q]; exact lr_mn_l _ _
theorem lz_plus0 {M : Int} {c d : Int64} (hc : lz_b M (lz_v c)) (hd : lz_b M (lz_v d)) (hm : M + M < 9223372036854775808) : lr_plus c d < 0 ↔ ¬ lr_le (some 0) (lr_ad (lz_v c) (lz_v d)) := by
  unfold lr_plus
  by_cases h1 : c = lr_E
  · rw [if_pos (Or.inl h1), h1, lz_v_E]; simp [lr_ad, lr_le]; decide
  by_cases h2 : d = lr_E
  · rw [if_pos (Or.inr h2), h2, lz_v_E]
    constructor
    · intro q; exact absurd q (by decide)
    · intro q
      have w : lr_ad (lz_v c) none = none := by cases lz_v c <;> rfl
      rw [w] at q; exact absurd (lr_le_none _) q
  rw [if_neg (by simp [h1, h2]), lz_v_s h1, lz_v_s h2]
  have a := hc _ (lz_v_s h1)
  have b := hd _ (lz_v_s h2)
  have e : (c + d).toInt = c.toInt + d.toInt := lz_add (by omega) (by omega)
  rw [Int64.lt_iff_toInt_lt, e, show (0 : Int64).toInt = 0 from by decide]
  simp [lr_ad, lr_le]
