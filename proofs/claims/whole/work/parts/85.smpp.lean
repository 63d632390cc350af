/-! a point of a shape: names fixed one after another -/
def lz_z (W : lr_M) (G : Nat → Option Int) : lr_M := fun i j => if i = j then lr_db (G i) else lr_mn (W i j) (lr_ad (G i) (G j))
def lg_ok (N : Nat) (W : lr_M) (G : Nat → Option Int) : Prop := (∀ i, i < 2 * N → ∀ p, p < 2 * N → lr_le (G i) (lr_ad (W i p) (G (lr_op p)))) ∧ (∀ i, i < 2 * N → lr_le (some 0) (lr_ad (G i) (G (lr_op i)))) ∧ (∀ i, i < 2 * N → lr_le (G i) (lr_hf (W i i)))
theorem lz_z_W {N : Nat} {W : lr_M} {G : Nat → Option Int} (h : lg_ok N W G) {i j : Nat} (hi : i < 2 * N) : lr_le (lz_z W G i j) (W i j) := by
  unfold lz_z
  by_cases w : i = j
  · subst w; rw [if_pos rfl]; exact lr_le_trans (lr_db_le (h.2.2 i hi)) (lr_dh_le _)
  · rw [if_neg w]; exact lr_mn_l _ _
theorem lz_z_G {W : lr_M} {G : Nat → Option Int} {i j : Nat} : lr_le (lz_z W G i j) (lr_ad (G i) (G j)) := by
  unfold lz_z
  by_cases w : i = j
  · subst w; rw [if_pos rfl, lr_db_2]; exact lr_le_refl _
  · rw [if_neg w]; exact lr_mn_r _ _
theorem lz_z_or {W : lr_M} {G : Nat → Option Int} {i j : Nat} : lz_z W G i j = W i j ∨ lz_z W G i j = lr_ad (G i) (G j) := by
  unfold lz_z
  by_cases w : i = j
  · subst w; rw [if_pos rfl, lr_db_2]; exact Or.inr rfl
  · rw [if_neg w]; exact lr_mn_or _ _
theorem lz_z_cl {N : Nat} {W : lr_M} {G : Nat → Option Int} (hW : lr_Cl N W) (h : lg_ok N W G) : lr_Cl N (lz_z W G) := by
  refine ⟨fun i hi j hj => ?_, fun i hi => ?_, fun p hp i hi j hj => ?_, fun i hi c hc => ?_, fun i hi j hj => ?_⟩
  · unfold lz_z
    by_cases w : i = j
    · subst w; rfl
    · rw [if_neg w, if_neg (fun e => w e.symm), hW.1 i hi j hj, lr_ad_comm]
  · refine lr_le_anti ?_ ?_
    · rw [← hW.2.1 i hi]; exact lz_z_W h hi
    · unfold lz_z
      rw [if_neg (fun e => lr_op_ne i e.symm), hW.2.1 i hi]
      exact lr_mn_g (lr_le_refl _) (h.2.1 i hi)
  · have ho := lr_op_lt hp
    rcases lz_z_or (W := W) (G := G) (i := i) (j := p) with a | a <;> rcases lz_z_or (W := W) (G := G) (i := lr_op p) (j := j) with b | b <;> rw [a, b]
    · exact lr_le_trans (lz_z_W h hi) (hW.2.2.1 p hp i hi j hj)
    · exact lr_le_trans lz_z_G (lr_q3 (h.1 i hi p hp))
    · refine lr_le_trans lz_z_G ?_
      have := h.1 j hj _ ho
      rw [lr_op_op, hW.1 j hj _ ho, lr_ad_comm] at this
      exact lr_q2 this
    · exact lr_le_trans lz_z_G (lr_q4 (h.2.1 p hp))
  · unfold lz_z at hc
    rw [if_pos rfl] at hc
    cases e : G i with
    | none => rw [e] at hc; simp [lr_db] at hc
    | some x => rw [e] at hc; simp [lr_db] at hc; omega
  · have := lr_db_le (lz_z_G (W := W) (G := G) (i := i) (j := j))
    rw [lr_db_ad] at this
    have e : ∀ q, lz_z W G q q = lr_db (G q) := fun q => by unfold lz_z; rw [if_pos rfl]
    rw [e, e]; exact this
def lg_s (W : lr_M) (G : Nat → Option Int) (t : Nat) (π : Int) : Nat → Option Int := fun q => lr_mn (lr_mn (G q) (lr_ad (W q (2 * t)) (some (-π)))) (lr_ad (W q (2 * t + 1)) (some π))
theorem lg_s_or {W : lr_M} {G : Nat → Option Int} {t : Nat} {π : Int} (q : Nat) : lg_s W G t π q = G q ∨ lg_s W G t π q = lr_ad (W q (2 * t)) (some (-π)) ∨ lg_s W G t π q = lr_ad (W q (2 * t + 1)) (some π) := by
  unfold lg_s
  rcases lr_mn_or (lr_mn (G q) (lr_ad (W q (2 * t)) (some (-π)))) (lr_ad (W q (2 * t + 1)) (some π)) with e | e
  · rw [e]
    rcases lr_mn_or (G q) (lr_ad (W q (2 * t)) (some (-π))) with e | e
    · exact Or.inl e
    · exact Or.inr (Or.inl e)
  · exact Or.inr (Or.inr e)
theorem lg_s_1 {W : lr_M} {G : Nat → Option Int} {t q : Nat} {π : Int} : lr_le (lg_s W G t π q) (G q) := lr_le_trans (lr_mn_l _ _) (lr_mn_l _ _)
theorem lg_s_2 {W : lr_M} {G : Nat → Option Int} {t q : Nat} {π : Int} : lr_le (lg_s W G t π q) (lr_ad (W q (2 * t)) (some (-π))) := lr_le_trans (lr_mn_l _ _) (lr_mn_r _ _)
theorem lg_s_3 {W : lr_M} {G : Nat → Option Int} {t q : Nat} {π : Int} : lr_le (lg_s W G t π q) (lr_ad (W q (2 * t + 1)) (some π)) := lr_mn_r _ _
theorem lg_2t {t : Nat} : lr_op (2 * t) = 2 * t + 1 := by unfold lr_op; rw [if_pos (by omega)]
theorem lg_2o {t : Nat} : lr_op (2 * t + 1) = 2 * t := by unfold lr_op; rw [if_neg (by omega)]; omega
theorem lg_hf2 {N : Nat} {W : lr_M} {G : Nat → Option Int} (h : lg_ok N W G) {i : Nat} (hi : i < 2 * N) : lr_le (lr_db (G i)) (W i i) := lr_le_trans (lr_db_le (h.2.2 i hi)) (lr_dh_le _)
theorem lg_step {N t : Nat} {W : lr_M} {G : Nat → Option Int} {π : Int} (hW : lr_Cl N W) (h : lg_ok N W G) (ht : t < N) (h1 : lr_le (some π) (G (2 * t))) (h2 : lr_le (some (-π)) (G (2 * t + 1))) : lg_ok N W (lg_s W G t π) ∧ lg_s W G t π (2 * t) = some π ∧ lg_s W G t π (2 * t + 1) = some (-π) := by
  have hp : 2 * t < 2 * N := by omega
  have ho : 2 * t + 1 < 2 * N := by omega
  have wpo : W (2 * t) (2 * t + 1) = some 0 := by have := hW.2.1 _ hp; rw [lg_2t] at this; exact this
  have wop : W (2 * t + 1) (2 * t) = some 0 := by rw [hW.1 _ ho _ hp]; exact wpo
  have dp := lg_hf2 h hp
  have do' := lg_hf2 h ho
  refine ⟨⟨fun i hi p hp' => ?_, fun i hi => ?_, fun i hi => lr_le_trans lg_s_1 (h.2.2 i hi)⟩, ?_, ?_⟩
  · have hop := lr_op_lt hp'
    rcases lg_s_or (W := W) (G := G) (t := t) (π := π) (lr_op p) with e | e | e <;> rw [e]
    · exact lr_le_trans lg_s_1 (h.1 i hi p hp')
    · refine lr_le_trans lg_s_2 ?_
      have := hW.2.2.1 p hp' i hi _ hp
      generalize W i (2 * t) = a at *
      generalize W i p = b at *
      generalize W (lr_op p) (2 * t) = c at *
      cases a <;> cases b <;> cases c <;> simp_all [lr_le, lr_ad]; omega
    · refine lr_le_trans lg_s_3 ?_
      have := hW.2.2.1 p hp' i hi _ ho
      generalize W i (2 * t + 1) = a at *
      generalize W i p = b at *
      generalize W (lr_op p) (2 * t + 1) = c at *
      cases a <;> cases b <;> cases c <;> simp_all [lr_le, lr_ad]; omega
  · have hoi := lr_op_lt hi
    -- where one of the two is a row to the name
    have k1 : ∀ i, i < 2 * N → lr_le (some 0) (lr_ad (G i) (lr_ad (W (lr_op i) (2 * t)) (some (-π)))) := fun i hi => by
      have := h.1 _ hp (lr_op i) (lr_op_lt hi)
      rw [lr_op_op, hW.1 _ hp _ (lr_op_lt hi)] at this
      generalize G (2 * t) = a at *
      generalize W (lr_op i) (2 * t) = b at *
      generalize G i = c at *
      cases a <;> cases b <;> cases c <;> simp_all [lr_le, lr_ad]; omega
    have k2 : ∀ i, i < 2 * N → lr_le (some 0) (lr_ad (G i) (lr_ad (W (lr_op i) (2 * t + 1)) (some π))) := fun i hi => by
      have := h.1 _ ho (lr_op i) (lr_op_lt hi)
      rw [lr_op_op, hW.1 _ ho _ (lr_op_lt hi)] at this
      generalize G (2 * t + 1) = a at *
      generalize W (lr_op i) (2 * t + 1) = b at *
      generalize G i = c at *
      cases a <;> cases b <;> cases c <;> simp_all [lr_le, lr_ad]; omega
    have t11 := hW.2.2.1 i hi _ hp _ hp
    have t22 := hW.2.2.1 i hi _ ho _ ho
    have t12 := hW.2.2.1 i hi _ hp _ ho
    have t21 := hW.2.2.1 i hi _ ho _ hp
    rw [hW.1 _ hp i hi] at t11 t12
    rw [hW.1 _ ho i hi] at t22 t21
    rw [wpo] at t12
    rw [wop] at t21
    have k1' := k1 _ hoi
    have k2' := k2 _ hoi
    rw [lr_op_op] at k1' k2'
    rcases lg_s_or (W := W) (G := G) (t := t) (π := π) i with a | a | a <;> rcases lg_s_or (W := W) (G := G) (t := t) (π := π) (lr_op i) with b | b | b <;> rw [a, b]
    · exact h.2.1 i hi
    · exact k1 i hi
    · exact k2 i hi
    · rw [lr_ad_comm]; exact k1'
    · clear k1 k2 k1' k2' t22 t12 t21
      generalize W i (2 * t) = x at *
      generalize W (lr_op i) (2 * t) = y at *
      generalize W (2 * t) (2 * t) = z at *
      generalize G (2 * t) = g at *
      cases x <;> cases y <;> cases z <;> cases g <;> simp_all [lr_le, lr_ad, lr_db]; omega
    · clear k1 k2 k1' k2' t22 t11 t21
      generalize W i (2 * t) = x at *
      generalize W (lr_op i) (2 * t + 1) = y at *
      cases x <;> cases y <;> simp_all [lr_le, lr_ad]; omega
    · rw [lr_ad_comm]; exact k2'
    · clear k1 k2 k1' k2' t22 t11 t12
      generalize W i (2 * t + 1) = x at *
      generalize W (lr_op i) (2 * t) = y at *
      cases x <;> cases y <;> simp_all [lr_le, lr_ad]; omega
    · clear k1 k2 k1' k2' t11 t12 t21
      generalize W i (2 * t + 1) = x at *
      generalize W (lr_op i) (2 * t + 1) = y at *
      generalize W (2 * t + 1) (2 * t + 1) = z at *
      generalize G (2 * t + 1) = g at *
      cases x <;> cases y <;> cases z <;> cases g <;> simp_all [lr_le, lr_ad, lr_db]; omega
  · unfold lg_s
    rw [wpo]
    generalize W (2 * t) (2 * t) = z at *
    generalize G (2 * t) = g at *
    refine lr_le_anti ?_ (lr_mn_g (lr_mn_g h1 ?_) ?_)
    · refine lr_le_trans (lr_mn_r _ _) ?_; simp [lr_ad, lr_le]
    · cases z <;> cases g <;> simp_all [lr_le, lr_ad, lr_db]; omega
    · simp [lr_ad, lr_le]
  · unfold lg_s
    rw [wop]
    generalize W (2 * t + 1) (2 * t + 1) = z at *
    generalize G (2 * t + 1) = g at *
    refine lr_le_anti ?_ (lr_mn_g (lr_mn_g h2 ?_) ?_)
    · refine lr_le_trans (lr_mn_l _ _) (lr_le_trans (lr_mn_r _ _) ?_); simp [lr_ad, lr_le]
    · simp [lr_ad, lr_le]
    · cases z <;> cases g <;> simp_all [lr_le, lr_ad, lr_db]; omega
/-- the closed matrix when a name is fixed -/
theorem lg_is {N t : Nat} {W X : lr_M} {G : Nat → Option Int} {π : Int} (hW : lr_Cl N W) (h : lg_ok N W G) (ht : t < N) (h1 : lr_le (some π) (G (2 * t))) (h2 : lr_le (some (-π)) (G (2 * t + 1))) (hX : ∀ i, i < 2 * N → ∀ j, j < 2 * N → X i j = lq_up (lq_up (lz_z W G) (2 * t) (2 * t) (lr_mn (lz_z W G (2 * t) (2 * t)) (some (2 * π)))) (2 * t + 1) (2 * t + 1) (lr_mn (lz_z W G (2 * t + 1) (2 * t + 1)) (some (2 * -π))) i j) : lr_Is N X (lz_z W (lg_s W G t π)) := by
  obtain ⟨s1, s2, s3⟩ := lg_step hW h ht h1 h2
  have hp : 2 * t < 2 * N := by omega
  have ho : 2 * t + 1 < 2 * N := by omega
  have zd : ∀ q, lz_z W G q q = lr_db (G q) := fun q => by unfold lz_z; rw [if_pos rfl]
  have zd' : ∀ q, lz_z W (lg_s W G t π) q q = lr_db (lg_s W G t π q) := fun q => by unfold lz_z; rw [if_pos rfl]
  have mono : ∀ i j, lr_le (lz_z W (lg_s W G t π) i j) (lz_z W G i j) := fun i j => by
    unfold lz_z
    by_cases w : i = j
    · rw [if_pos w, if_pos w]; exact lr_db_le lg_s_1
    · rw [if_neg w, if_neg w]; exact lr_mn_g (lr_mn_l _ _) (lr_le_trans (lr_mn_r _ _) (lr_ad_le lg_s_1 lg_s_1))
  refine ⟨lz_z_cl hW s1, fun i hi j hj => ?_, fun Y hY hYX => ?_⟩
  · rw [hX i hi j hj]
    rcases lq_up_or (C := lq_up (lz_z W G) (2 * t) (2 * t) (lr_mn (lz_z W G (2 * t) (2 * t)) (some (2 * π)))) (i := 2 * t + 1) (k := 2 * t + 1) (x := i) (y := j) (c := lr_mn (lz_z W G (2 * t + 1) (2 * t + 1)) (some (2 * -π))) with ⟨w, e⟩ | ⟨_, e⟩ <;> rw [e]
    · have e1 : i = 2 * t + 1 := by omega
      have e2 : j = 2 * t + 1 := by omega
      subst e1; subst e2
      refine lr_mn_g (mono _ _) ?_
      rw [zd', s3]; exact lr_le_refl _
    · rcases lq_up_or (C := lz_z W G) (i := 2 * t) (k := 2 * t) (x := i) (y := j) (c := lr_mn (lz_z W G (2 * t) (2 * t)) (some (2 * π))) with ⟨w, e⟩ | ⟨_, e⟩ <;> rw [e]
      · have e1 : i = 2 * t := by omega
        have e2 : j = 2 * t := by omega
        subst e1; subst e2
        refine lr_mn_g (mono _ _) ?_
        rw [zd', s2]; exact lr_le_refl _
      · exact mono i j
  · have hXZ : ∀ i, i < 2 * N → ∀ j, j < 2 * N → lr_le (Y i j) (lz_z W G i j) := fun i hi j hj => by
      have := hYX i hi j hj
      rw [hX i hi j hj] at this
      refine lr_le_trans this ?_
      rcases lq_up_or (C := lq_up (lz_z W G) (2 * t) (2 * t) (lr_mn (lz_z W G (2 * t) (2 * t)) (some (2 * π)))) (i := 2 * t + 1) (k := 2 * t + 1) (x := i) (y := j) (c := lr_mn (lz_z W G (2 * t + 1) (2 * t + 1)) (some (2 * -π))) with ⟨w, e⟩ | ⟨_, e⟩ <;> rw [e]
      · have e1 : i = 2 * t + 1 := by omega
        have e2 : j = 2 * t + 1 := by omega
        subst e1; subst e2
        exact lr_mn_l _ _
      · rcases lq_up_or (C := lz_z W G) (i := 2 * t) (k := 2 * t) (x := i) (y := j) (c := lr_mn (lz_z W G (2 * t) (2 * t)) (some (2 * π))) with ⟨w, e⟩ | ⟨_, e⟩ <;> rw [e]
        · have e1 : i = 2 * t := by omega
          have e2 : j = 2 * t := by omega
          subst e1; subst e2
          exact lr_mn_l _ _
        · exact lr_le_refl _
    have yp : lr_le (Y (2 * t) (2 * t)) (some (2 * π)) := by
      have := hYX _ hp _ hp
      rw [hX _ hp _ hp, lq_up_ne (by omega), lq_up_in] at this
      exact lr_le_trans this (lr_mn_r _ _)
    have yo : lr_le (Y (2 * t + 1) (2 * t + 1)) (some (2 * -π)) := by
      have := hYX _ ho _ ho
      rw [hX _ ho _ ho, lq_up_in] at this
      exact lr_le_trans this (lr_mn_r _ _)
    have hYW : ∀ i, i < 2 * N → ∀ j, j < 2 * N → lr_le (Y i j) (W i j) := fun i hi j hj => lr_le_trans (hXZ i hi j hj) (lz_z_W h hi)
    have hYd : ∀ i, i < 2 * N → lr_le (Y i i) (lr_db (lg_s W G t π i)) := fun i hi => by
      have a1 : lr_le (Y i i) (lr_db (G i)) := by rw [← zd]; exact hXZ i hi i hi
      have b1 := hYW i hi _ hp
      have b2 := hYW i hi _ ho
      have t1 := hY.2.2.1 _ hp i hi i hi
      have t2 := hY.2.2.1 _ ho i hi i hi
      rw [lg_2t] at t1
      rw [lg_2o] at t2
      have u1 := hY.2.2.1 _ hp _ ho i hi
      have u2 := hY.2.2.1 _ ho _ hp i hi
      rw [lg_2t] at u1
      rw [lg_2o] at u2
      -- through the name, once and twice
      have v1 := hY.2.2.1 _ ho _ ho i hi
      have v2 := hY.2.2.1 _ hp _ hp i hi
      rw [lg_2o] at v1
      rw [lg_2t] at v2
      rw [hY.1 _ ho i hi, hY.1 _ hp i hi] at v1 v2
      rw [hY.1 _ ho i hi] at t1
      rw [hY.1 _ hp i hi] at t2
      clear u1 u2
      rcases lg_s_or (W := W) (G := G) (t := t) (π := π) i with e | e | e <;> rw [e]
      · exact a1
      · clear a1 b2 t2 v2 yp
        generalize Y i i = a at *
        generalize Y i (2 * t) = b at *
        generalize Y i (2 * t + 1) = c at *
        generalize Y (2 * t + 1) (2 * t + 1) = d at *
        generalize W i (2 * t) = x at *
        cases x <;> cases a <;> cases b <;> cases c <;> cases d <;> simp_all [lr_le, lr_ad, lr_db] <;> omega
      · clear a1 b1 t1 v1 yo
        generalize Y i i = a at *
        generalize Y i (2 * t) = b at *
        generalize Y i (2 * t + 1) = c at *
        generalize Y (2 * t) (2 * t) = d at *
        generalize W i (2 * t + 1) = x at *
        cases x <;> cases a <;> cases b <;> cases c <;> cases d <;> simp_all [lr_le, lr_ad, lr_db] <;> omega
    intro i hi j hj
    unfold lz_z
    by_cases w : i = j
    · subst w; rw [if_pos rfl]; exact hYd i hi
    · rw [if_neg w]
      refine lr_mn_g (hYW i hi j hj) ?_
      have a := hYd i hi
      have b := hYd j hj
      have c := hY.2.2.2.2 i hi j hj
      generalize Y i j = x at *
      generalize Y i i = y at *
      generalize Y j j = z at *
      generalize lg_s W G t π i = u at *
      generalize lg_s W G t π j = v at *
      cases u <;> cases v <;> cases x <;> cases y <;> cases z <;> simp_all [lr_le, lr_ad, lr_db] <;> omega
