/-! the reference's closing: what it gives, and that it ends -/
def lz_X (m : Nat) (X : Nat → Nat → Int64) : lr_M := fun i k => if i < m ∧ k < m then lz_v (X i k) else none
theorem lz_X_in {m i k : Nat} {X : Nat → Nat → Int64} (hi : i < m) (hk : k < m) : lz_X m X i k = lz_v (X i k) := if_pos ⟨hi, hk⟩
theorem lz_X_out {m i k : Nat} {X : Nat → Nat → Int64} (h : ¬ (i < m ∧ k < m)) : lz_X m X i k = none := if_neg h
theorem lz_X_ag {N : Nat} {D : Nat → Int64} {X : Nat → Nat → Int64} (h : lm_ag N D X) : lz_D (2 * N) D = lz_X (2 * N) X := by
  funext i k
  by_cases q : i < 2 * N ∧ k < 2 * N
  · rw [lz_D_in q.1 q.2, lz_X_in q.1 q.2, h i k q.1 q.2]
  · rw [lz_D_out q, lz_X_out q]
theorem lz_X_ag' {N : Nat} {D : Nat → Int64} {X : Nat → Nat → Int64} (h : lz_D (2 * N) D = lz_X (2 * N) X) : lm_ag N D X := fun i k hi hk => by
  have := congrFun (congrFun h i) k
  rw [lz_D_in hi hk, lz_X_in hi hk] at this
  exact lz_v_inj this
theorem lz_c0 {m : Nat} {D : Nat → Int64} (hm : m ≤ 10) (he : m % 2 = 0) (h : ∀ i, i < m → 0 ≤ D (10 * i + lr_op i)) : lz_D m (lm_c0 m D) = lz_O m (some 0) (lz_D m D) := by
  have hp : ∀ i j, i < m → j < m → 10 * i + lr_op i = 10 * j + lr_op j → i = j := fun i j hi hj q => by
    have := lr_op_lt' he hi
    have := lr_op_lt' he hj
    omega
  funext x y
  by_cases q : x < m ∧ y < m
  · rw [lz_D_in q.1 q.2]
    unfold lz_O
    by_cases w : x < m ∧ y = lr_op x
    · rw [if_pos w, w.2]
      have := lm_itp (F := D) (p := fun i => 10 * i + lr_op i) (g := fun _ c => lm_mn0 c) hp q.1
      show lz_v (lm_c0 m D (10 * x + lr_op x)) = _
      unfold lm_c0
      rw [this]
      show lz_v (lm_mn0 _) = _
      unfold lm_mn0
      rw [if_pos (h x q.1)]; exact lz_v0
    · rw [if_neg w, lz_D_in q.1 q.2]
      have := lm_itn (F := D) (p := fun i => 10 * i + lr_op i) (g := fun _ c => lm_mn0 c) (q := 10 * x + y) hp (fun i hi e => by
        have := lr_op_lt' he hi
        have e : 10 * i + lr_op i = 10 * x + y := e
        have e1 : i = x := by omega
        subst e1
        exact w ⟨hi, by omega⟩)
      unfold lm_c0
      rw [this]
  · rw [lz_D_out q]
    unfold lz_O
    rw [if_neg, lz_D_out q]
    rintro ⟨w1, w2⟩
    exact q ⟨w1, by rw [w2]; exact lr_op_lt' he w1⟩
theorem lr_cut_mono {m : Nat} {C D : lr_M} (h : lr_LE m C D) : lr_LE m (lr_cut C) (lr_cut D) := fun i hi j hj => by
  unfold lr_cut
  by_cases q : i = j
  · subst q
    rw [if_pos rfl, if_pos rfl]; exact lr_db_le (lr_hf_le (h i hi i hi))
  · rw [if_neg q, if_neg q]
    exact lr_mn_g (lr_le_trans (lr_mn_l _ _) (h i hi j hj)) (lr_le_trans (lr_mn_r _ _) (lr_ad_le (lr_hf_le (h i hi i hi)) (lr_hf_le (h j hj j hj))))
/-- a pass that is not refused -/
theorem lz_go {N : Nat} {z0 : lm_S} {X : lr_M} (hN : N ≤ 5) (hX : lz_D (2 * N) z0.1 = X) (hH : lq_H N (lz_3 0) X) (hn : ∀ j, j < 2 * N → ¬ lm_neg (2 * N) (lm_P (2 * N) (j + 1) z0).1) :
    (∀ i, i < 2 * N → (lm_tw (lm_H (2 * N) i (lm_E2 (2 * N) (lm_P (2 * N) (2 * N) z0))).1 i ↔ ¬ lr_le (some 0) (lr_ad (lr_hf (lz_D (2 * N) (lm_P (2 * N) (2 * N) z0).1 i i)) (lr_hf (lz_D (2 * N) (lm_P (2 * N) (2 * N) z0).1 (lr_op i) (lr_op i)))))) ∧
    lz_D (2 * N) (lm_H (2 * N) (2 * N) (lm_E2 (2 * N) (lm_P (2 * N) (2 * N) z0))).1 = lr_cut (lz_D (2 * N) (lm_P (2 * N) (2 * N) z0).1) ∧
    lq_low N X (lz_D (2 * N) (lm_P (2 * N) (2 * N) z0).1) ∧ lr_LE (2 * N) (lz_D (2 * N) (lm_P (2 * N) (2 * N) z0).1) (lr_fw X (2 * N)) ∧
    ∀ k, k ≤ 2 * N → ∀ i, i < 2 * N → lr_le (some 0) (lr_fw X k i (lr_op i)) := by
  obtain ⟨h1, h2, h3⟩ := lz_pass hN hX hH N (Nat.le_refl _) hn
  have m5 := lz_3_le (q := N) hN
  have m0 := lz_3_0 (q := N) hN
  have hE := lz_E2 (m := 2 * N) (z := lm_P (2 * N) (2 * N) z0) (by omega) h1.2.1 (by omega)
  have hEb : lz_B (lz_3 N + 1) (lz_D (2 * N) (lm_E2 (2 * N) (lm_P (2 * N) (2 * N) z0)).1) := fun i j => by
    rw [hE]; unfold lz_ev
    by_cases w : i = j
    · rw [if_pos w]
      cases e : lz_D (2 * N) (lm_P (2 * N) (2 * N) z0).1 i i with
      | none => exact lz_b_n
      | some x =>
        have := h1.2.1 i i x e
        exact lz_b_s.mpr (by omega)
    · rw [if_neg w]; exact lz_b_w (h1.2.1 i j) (by omega)
  have hdg : ∀ i, lz_D (2 * N) (lm_E2 (2 * N) (lm_P (2 * N) (2 * N) z0)).1 i i = lr_db (lr_hf (lz_D (2 * N) (lm_P (2 * N) (2 * N) z0).1 i i)) := fun i => by rw [hE]; exact if_pos rfl
  have hev : ∀ q, q < 2 * N → ∀ v, lz_D (2 * N) (lm_E2 (2 * N) (lm_P (2 * N) (2 * N) z0)).1 q q = some v → v % 2 = 0 := fun q hq v hv => by
    rw [hdg] at hv
    cases e : lz_D (2 * N) (lm_P (2 * N) (2 * N) z0).1 q q with
    | none => rw [e] at hv; simp [lr_hf, lr_db] at hv
    | some y => rw [e] at hv; simp [lr_hf, lr_db] at hv; omega
  have hsy : lr_Sym (2 * N) (lz_D (2 * N) (lm_E2 (2 * N) (lm_P (2 * N) (2 * N) z0)).1) := fun i hi j hj => by
    rw [hE]; unfold lz_ev
    by_cases w : i = j
    · subst w; rfl
    · rw [if_neg w, if_neg (fun q => w q.symm)]; exact h1.1 i hi j hj
  have hHn : ∀ n, n ≤ 2 * N → _ := fun n hn => lz_H (m := 2 * N) (n := n) (z := lm_E2 (2 * N) (lm_P (2 * N) (2 * N) z0)) (M := lz_3 N + 1) (by omega) hn hsy hEb (by omega) (by omega) hev
  refine ⟨fun i hi => ?_, ?_, h2, (h3 (2 * N) (Nat.le_refl _)).1, fun k hk i hi => ?_⟩
  · have ho := lr_op_lt hi
    have d := (hHn i (by omega)).1
    have d1 := d i hi
    have d2 := d _ ho
    rw [lz_D_dg hi, hdg] at d1
    rw [lz_D_dg ho, hdg] at d2
    have b : ∀ q, lz_b (lz_3 N + 1) (lr_db (lr_hf (lz_D (2 * N) (lm_P (2 * N) (2 * N) z0).1 q q))) := fun q => by rw [← hdg]; exact hEb q q
    unfold lm_tw
    rw [lz_plus0 (M := lz_3 N + 1) (by rw [d1]; exact b i) (by rw [d2]; exact b _) (by omega), d1, d2, ← lr_db_ad]
    generalize lr_ad (lr_hf (lz_D (2 * N) (lm_P (2 * N) (2 * N) z0).1 i i)) (lr_hf (lz_D (2 * N) (lm_P (2 * N) (2 * N) z0).1 (lr_op i) (lr_op i))) = y
    cases y <;> simp [lr_db, lr_le]; omega
  · rw [(hHn (2 * N) (Nat.le_refl _)).2 rfl, hE, lz_hacut]
  · refine lr_le_trans ?_ ((h3 k hk).1 i hi _ (lr_op_lt hi))
    cases k with
    | zero =>
      show lr_le (some 0) (lz_D (2 * N) z0.1 i (lr_op i))
      rw [hX, hH.2.2 i hi]; exact lr_le_refl _
    | succ k =>
      refine Classical.byContradiction fun w => hn k (by omega) ?_
      exact (lz_ngP (h3 (k + 1) hk).2 (by omega)).mpr ⟨i, hi, w⟩
/-- what is closed is left as it is -/
theorem lz_stay {N : Nat} {F : Nat → Int64} {g : Int32} {M : Int} (hN : N ≤ 5) (hC : lr_Cl N (lz_D (2 * N) F)) (hB : lz_B M (lz_D (2 * N) F)) (h0 : 0 ≤ M) (hM : M + M < 4611686018427387904) : (∀ n, n ≤ 2 * N → lm_P (2 * N) n (F, g) = (F, g)) ∧ lm_E2 (2 * N) (F, g) = (F, g) ∧ (∀ n, n ≤ 2 * N → lm_H (2 * N) n (F, g) = (F, g)) := by
  refine ⟨fun n hn => ?_, ?_, fun n hn => ?_⟩
  · refine lr_it_inv (P := fun z : lm_S => z = (F, g)) (fun j hj z hz => ?_) rfl
    refine lr_it_inv (P := fun z : lm_S => z = (F, g)) (fun i hi z hz => ?_) hz
    refine lr_it_inv (P := fun z : lm_S => z = (F, g)) (fun k hk z hz => ?_) hz
    subst hz
    rcases lz_k (z := (F, g)) (by omega) hi (show j < 2 * N by omega) (lr_op_lt (by omega)) hk (hB i k) (hB i j) (hB _ k) (by omega) hM with ⟨_, e⟩ | ⟨w, _⟩
    · exact e
    · exact absurd (hC.2.2.1 j (by omega) i hi k hk) w
  · refine lr_it_inv (P := fun z : lm_S => z = (F, g)) (fun i hi z hz => ?_) rfl
    subst hz
    unfold lm_e
    by_cases q : F (11 * i) = lr_E
    · exact if_pos q
    · have b := hB i i
      rw [lz_D_dg hi] at b
      have := (lz_odd q b (by omega)).1
      have e := hC.2.2.2.1 i hi (F (11 * i)).toInt (by rw [lz_D_dg hi]; exact lz_v_s q)
      show (if F (11 * i) = lr_E then _ else if F (11 * i) - F (11 * i) / 2 * 2 = 0 then _ else _) = _
      rw [if_neg q, if_pos (this.mpr e)]
  · refine lr_it_inv (P := fun z : lm_S => z = (F, g)) (fun i hi z hz => ?_) rfl
    refine lr_it_inv (P := fun z : lm_S => z = (F, g)) (fun k hk z hz => ?_) hz
    subst hz
    have hi : i < 2 * N := by omega
    have hev : ∀ q, q < 2 * N → ∀ v, lz_D (2 * N) F q q = some v → v % 2 = 0 := fun q hq v hv => hC.2.2.2.1 q hq v hv
    rcases lz_h (z := (F, g)) (by omega) hi hk hB h0 (by omega) hev with ⟨_, e⟩ | ⟨w, _⟩
    · exact e
    · exfalso; apply w
      have c := hC.2.2.2.2 i hi k hk
      have e1 := hev i hi
      have e2 := hev k hk
      show lr_le (lz_D (2 * N) F i k) (lr_ad (lr_hf (lz_D (2 * N) F i i)) (lr_hf (lz_D (2 * N) F k k)))
      generalize lz_D (2 * N) F i k = x at *
      generalize lz_D (2 * N) F i i = y at *
      generalize lz_D (2 * N) F k k = z at *
      cases x <;> cases y <;> cases z <;> simp_all [lr_le, lr_hf, lr_ad, lr_db]; omega
theorem lz_Oz {m : Nat} {X : lr_M} {i : Nat} (hi : i < m) : lz_O m (some 0) X i (lr_op i) = some 0 := if_pos ⟨hi, rfl⟩
theorem lz_OB {m : Nat} {X : lr_M} {M : Int} (h : lz_B M X) (h0 : 0 ≤ M) : lz_B M (lz_O m (some 0) X) := fun i j => by
  unfold lz_O; split
  · exact lz_b_s.mpr (by omega)
  · exact h i j
theorem lz_RT1 {N : Nat} {X Y : Nat → Nat → Int64} {M : Int} (hN : N ≤ 5) (hs : lr_Sym (2 * N) (lz_O (2 * N) (some 0) (lz_X (2 * N) X))) (hb : lz_B 10000000000000000 (lz_O (2 * N) (some 0) (lz_X (2 * N) X))) (hop : ∀ i, i < 2 * N → 0 ≤ X i (lr_op i)) (hI : lr_Is N (lz_O (2 * N) (some 0) (lz_X (2 * N) X)) (lz_X (2 * N) Y)) (hY : lz_B M (lz_X (2 * N) Y)) (h0 : 0 ≤ M) (hM : M + M < 4611686018427387904) : lm_Cl N X (some Y) := by
  intro D hag
  have hc0 : lz_D (2 * N) (lm_c0 (2 * N) D) = lz_O (2 * N) (some 0) (lz_X (2 * N) X) := by
    rw [lz_c0 (by omega) (by omega) (fun i hi => by rw [hag i _ hi (lr_op_lt hi)]; exact hop i hi), lz_X_ag hag]
  have hH : lq_H N (lz_3 0) (lz_O (2 * N) (some 0) (lz_X (2 * N) X)) := ⟨hs, hb, fun i hi => lz_Oz hi⟩
  have hn := lz_noneg (z0 := (lm_c0 (2 * N) D, nI 0)) hN hc0 hH hI.1 hI.2.1 N (Nat.le_refl _)
  obtain ⟨g1, g2, g3, g4, g5⟩ := lz_go (z0 := (lm_c0 (2 * N) D, nI 0)) hN hc0 hH hn
  have hlow := g3 _ hI.1 hI.2.1
  have htw' : ∀ i, i < 2 * N → lr_le (some 0) (lr_ad (lr_hf (lz_D (2 * N) (lm_P (2 * N) (2 * N) (lm_c0 (2 * N) D, nI 0)).1 i i)) (lr_hf (lz_D (2 * N) (lm_P (2 * N) (2 * N) (lm_c0 (2 * N) D, nI 0)).1 (lr_op i) (lr_op i)))) := fun i hi => by
    have ho := lr_op_lt hi
    refine lr_le_trans ?_ (lr_ad_le (lr_hf_le (hlow i hi i hi)) (lr_hf_le (hlow _ ho _ ho)))
    have c := hI.1.2.2.2.2 i hi _ ho
    rw [hI.1.2.1 i hi] at c
    have ei := hI.1.2.2.2.1 i hi
    have eo := hI.1.2.2.2.1 _ ho
    generalize lz_X (2 * N) Y i i = y at *
    generalize lz_X (2 * N) Y (lr_op i) (lr_op i) = z at *
    cases y <;> cases z <;> simp_all [lr_le, lr_hf, lr_ad, lr_db]; omega
  have htw : ∀ i, i < 2 * N → ¬ lm_tw (lm_H (2 * N) i (lm_E2 (2 * N) (lm_P (2 * N) (2 * N) (lm_c0 (2 * N) D, nI 0)))).1 i := fun i hi w => (g1 i hi).mp w (htw' i hi)
  have his : lr_Is N (lz_O (2 * N) (some 0) (lz_X (2 * N) X)) (lr_cut (lr_fw (lz_O (2 * N) (some 0) (lz_X (2 * N) X)) (2 * N))) := lr_close_is hs (fun i hi => lz_Oz hi) g5 (fun i hi => lr_le_trans (htw' i hi) (lr_ad_le (lr_hf_le (g4 i hi i hi)) (lr_hf_le (g4 _ (lr_op_lt hi) _ (lr_op_lt hi)))))
  have heq := lr_Is_eq (fun _ _ _ _ => rfl) his hI
  have hres : lz_D (2 * N) (lm_H (2 * N) (2 * N) (lm_E2 (2 * N) (lm_P (2 * N) (2 * N) (lm_c0 (2 * N) D, nI 0)))).1 = lz_X (2 * N) Y := by
    funext i k
    by_cases q : i < 2 * N ∧ k < 2 * N
    · refine lr_le_anti ?_ ?_
      · rw [g2, ← heq i q.1 k q.2]
        exact lr_cut_mono g4 i q.1 k q.2
      · rw [g2]; exact lr_cut_gr hI.1 hlow i q.1 k q.2
    · rw [lz_D_out q, lz_X_out q]
  generalize hz1 : lm_H (2 * N) (2 * N) (lm_E2 (2 * N) (lm_P (2 * N) (2 * N) (lm_c0 (2 * N) D, nI 0))) = z1 at hres
  have ho : lm_oR N (some Y) (some z1.1) := Or.inr ⟨Y, z1.1, rfl, rfl, lz_X_ag' hres⟩
  have hst := lz_stay (g := nI 0) (F := z1.1) hN (by rw [hres]; exact hI.1) (by rw [hres]; exact hY) h0 hM
  refine ⟨3, some z1.1, ?_, ho⟩
  refine Or.inr (Or.inr (Or.inr ⟨show ¬ nI 1 = 0 by decide, hn, htw, ?_⟩))
  show lm_runs (2 * N) 2 (lm_H (2 * N) (2 * N) (lm_E2 (2 * N) (lm_P (2 * N) (2 * N) (lm_c0 (2 * N) D, nI 0)))) (some z1.1)
  rw [hz1]
  by_cases hz : z1.2 = 0
  · exact Or.inl ⟨hz, rfl⟩
  · refine Or.inr (Or.inr (Or.inr ⟨hz, fun j hj => ?_, fun i hi => ?_, ?_⟩))
    · rw [hst.1 (j + 1) (by omega)]
      intro hneg
      obtain ⟨i, hi, w⟩ := (lz_ngP (M := M) (by rw [hres]; exact hY) (by omega)).mp hneg
      apply w
      show lr_le (some 0) (lz_D (2 * N) z1.1 i (lr_op i))
      rw [hres, hI.1.2.1 i hi]; exact lr_le_refl _
    · rw [hst.1 (2 * N) (Nat.le_refl _), hst.2.1, hst.2.2 i (by omega)]
      unfold lm_tw
      have ho := lr_op_lt hi
      show ¬ lr_plus (z1.1 (11 * i)) (z1.1 (11 * lr_op i)) < 0
      have b1 := hY i i
      have b2 := hY (lr_op i) (lr_op i)
      rw [← hres, lz_D_dg hi] at b1
      rw [← hres, lz_D_dg ho] at b2
      rw [lz_plus0 b1 b2 (by omega), ← lz_D_dg hi, ← lz_D_dg ho, hres]
      intro w; apply w
      have c := hI.1.2.2.2.2 i hi _ ho
      rw [hI.1.2.1 i hi] at c
      exact c
    · rw [hst.1 (2 * N) (Nat.le_refl _), hst.2.1, hst.2.2 (2 * N) (Nat.le_refl _)]
      exact Or.inl ⟨rfl, rfl⟩
theorem lz_RT0 {N : Nat} {X : Nat → Nat → Int64} (hN : N ≤ 5) (hs : lr_Sym (2 * N) (lz_O (2 * N) (some 0) (lz_X (2 * N) X))) (hb : lz_B 10000000000000000 (lz_O (2 * N) (some 0) (lz_X (2 * N) X))) (hop : ∀ i, i < 2 * N → 0 ≤ X i (lr_op i)) (hI : lr_No N (lz_O (2 * N) (some 0) (lz_X (2 * N) X))) : lm_Cl N X none := by
  intro D hag
  have hc0 : lz_D (2 * N) (lm_c0 (2 * N) D) = lz_O (2 * N) (some 0) (lz_X (2 * N) X) := by
    rw [lz_c0 (by omega) (by omega) (fun i hi => by rw [hag i _ hi (lr_op_lt hi)]; exact hop i hi), lz_X_ag hag]
  have hH : lq_H N (lz_3 0) (lz_O (2 * N) (some 0) (lz_X (2 * N) X)) := ⟨hs, hb, fun i hi => lz_Oz hi⟩
  refine ⟨1, none, ?_, Or.inl ⟨rfl, rfl⟩⟩
  by_cases hn : ∀ j, j < 2 * N → ¬ lm_neg (2 * N) (lm_P (2 * N) (j + 1) (lm_c0 (2 * N) D, nI 0)).1
  · obtain ⟨g1, g2, g3, g4, g5⟩ := lz_go (z0 := (lm_c0 (2 * N) D, nI 0)) hN hc0 hH hn
    by_cases ht : ∀ i, i < 2 * N → ¬ lm_tw (lm_H (2 * N) i (lm_E2 (2 * N) (lm_P (2 * N) (2 * N) (lm_c0 (2 * N) D, nI 0)))).1 i
    · exfalso
      have htw' : ∀ i, i < 2 * N → lr_le (some 0) (lr_ad (lr_hf (lz_D (2 * N) (lm_P (2 * N) (2 * N) (lm_c0 (2 * N) D, nI 0)).1 i i)) (lr_hf (lz_D (2 * N) (lm_P (2 * N) (2 * N) (lm_c0 (2 * N) D, nI 0)).1 (lr_op i) (lr_op i)))) := fun i hi => Classical.byContradiction fun w => ht i hi ((g1 i hi).mpr w)
      have his := lr_close_is hs (fun i hi => lz_Oz hi) g5 (fun i hi => lr_le_trans (htw' i hi) (lr_ad_le (lr_hf_le (g4 i hi i hi)) (lr_hf_le (g4 _ (lr_op_lt hi) _ (lr_op_lt hi)))))
      exact hI _ his.1 his.2.1
    · refine Or.inr (Or.inr (Or.inl ⟨show ¬ nI 1 = 0 by decide, hn, ?_, rfl⟩))
      exact Classical.byContradiction fun w => ht (fun i hi q => w ⟨i, hi, q⟩)
  · refine Or.inr (Or.inl ⟨show ¬ nI 1 = 0 by decide, ?_, rfl⟩)
    exact Classical.byContradiction fun w => hn (fun i hi q => w ⟨i, hi, q⟩)
