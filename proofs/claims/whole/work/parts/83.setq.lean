/-! set, forget, held together -/
theorem lr_Cl_congr {N : Nat} {U V : lr_M} (e : ∀ i, i < 2 * N → ∀ j, j < 2 * N → U i j = V i j) (h : lr_Cl N U) : lr_Cl N V := by
  obtain ⟨h1, h2, h3, h4, h5⟩ := h
  refine ⟨fun i hi j hj => ?_, fun i hi => ?_, fun p hp i hi j hj => ?_, fun i hi c hc => ?_, fun i hi j hj => ?_⟩
  · rw [← e i hi j hj, ← e j hj i hi]; exact h1 i hi j hj
  · rw [← e i hi _ (lr_op_lt hi)]; exact h2 i hi
  · rw [← e i hi j hj, ← e i hi p hp, ← e _ (lr_op_lt hp) j hj]; exact h3 p hp i hi j hj
  · rw [← e i hi i hi] at hc; exact h4 i hi c hc
  · rw [← e i hi j hj, ← e i hi i hi, ← e j hj j hj]; exact h5 i hi j hj
theorem lq_up_sym {m i k : Nat} {C : lr_M} {c : Option Int} (h : lr_Sym m C) : lr_Sym m (lq_up C i k c) := fun x hx y hy => by
  unfold lq_up
  by_cases q : (x = i ∧ y = k) ∨ (x = k ∧ y = i)
  · rw [if_pos q, if_pos (by omega)]
  · rw [if_neg q, if_neg (by omega)]; exact h x hx y hy
theorem lz_adM {m i k : Nat} {X : Nat → Nat → Int64} {v : Int64} {M M' : Int} (hi : i < m) (hk : k < m) (hs : lz_X m X i k = lz_X m X k i) (hb : lz_b M (lz_X m X i k)) (hv : lz_b M' (lz_v v)) (hm : M < 4611686018427387904) (hm' : M' < 4611686018427387904) : lz_X m (lm_adM X i k v) = lq_up (lz_X m X) i k (lr_mn (lz_X m X i k) (lz_v v)) := by
  have hb0 := hb
  rw [lz_X_in hi hk] at hb
  have hl := lz_le hb hv hm hm'
  rw [← lz_X_in hi hk] at hl
  funext a b
  by_cases q : a < m ∧ b < m
  · rw [lz_X_in q.1 q.2]
    unfold lm_adM
    by_cases w : X i k ≤ v
    · rw [if_pos w, lr_mn_of (hl.mp w)]
      rcases lq_up_or (C := lz_X m X) (i := i) (k := k) (x := a) (y := b) (c := lz_X m X i k) with ⟨w2, e⟩ | ⟨_, e⟩ <;> rw [e]
      · rcases w2 with ⟨rfl, rfl⟩ | ⟨rfl, rfl⟩
        · rw [lz_X_in q.1 q.2]
        · rw [hs, lz_X_in q.1 q.2]
      · rw [lz_X_in q.1 q.2]
    · rw [if_neg w, lr_mn_of' (fun z => w (hl.mpr z))]
      unfold lq_up
      by_cases w2 : (a = i ∧ b = k) ∨ (a = k ∧ b = i)
      · rw [if_pos w2, if_pos w2]
      · rw [if_neg w2, if_neg w2, lz_X_in q.1 q.2]
  · rw [lz_X_out q, lq_up_ne (by rintro (⟨rfl, rfl⟩ | ⟨rfl, rfl⟩) <;> exact q ⟨by omega, by omega⟩), lz_X_out q]
theorem lp_s_ot {k i : Nat} {z : Int32} (h : i < 10) (h1 : 1 ≤ k) (h5 : k ≤ 5) (w1 : i ≠ 2 * (k - 1)) (w2 : i ≠ 2 * (k - 1) + 1) : lp_s k z i = some i := by
  unfold lp_s
  rw [lp_src h h1 h5, if_neg w1, if_neg w2, if_neg (lm_term_nz (by omega)), lr_term_pl h]
theorem lp_s_p {k : Nat} {z : Int32} (h1 : 1 ≤ k) (h5 : k ≤ 5) : lp_s k z (2 * (k - 1)) = if z = 0 then none else some (lr_pl z) := by
  unfold lp_s
  rw [lp_src (by omega) h1 h5, if_pos rfl]
theorem lp_s_o {k : Nat} {z : Int32} (h1 : 1 ≤ k) (h5 : k ≤ 5) (hz : lr_sm z) : lp_s k z (2 * (k - 1) + 1) = if z = 0 then none else some (lr_op (lr_pl z)) := by
  have e : lr_src (2 * (k - 1) + 1) (nI k) z = -z := by rw [lp_src (by omega) h1 h5, if_neg (by omega), if_pos rfl]
  unfold lp_s
  rw [e]
  by_cases w : z = 0
  · rw [if_pos w, if_pos (by rw [w]; decide)]
  · rw [if_neg w, if_neg (mz_nz w), lr_pl_op hz w]
theorem lp_op_p {k : Nat} : lr_op (2 * (k - 1)) = 2 * (k - 1) + 1 := by unfold lr_op; rw [if_pos (by omega)]
theorem lp_op_o {k : Nat} : lr_op (2 * (k - 1) + 1) = 2 * (k - 1) := by unfold lr_op; rw [if_neg (by omega)]; omega
/-- the reference's own way: its name dropped, two rows added -/
theorem lp_X2 {N k : Nat} {B : Nat → Int64} {z : Int32} {v : Int64} (hN : N ≤ 5) (h1 : 1 ≤ k) (hk : k ≤ N) (hz : okT N z) (hv : okG v) (hC : lr_Cl N (lz_T (2 * N) B)) (hn : lz_nf (2 * N) (lz_T (2 * N) B)) (hz1 : ¬ z = nI k) (hz2 : ¬ z = -nI k) : ∃ D q q' : _, lz_X (2 * N) (lm_dropM (iv_mat N B) k) = D ∧
    lz_X (2 * N) (lm_addM (lm_addM (lm_dropM (iv_mat N B) k) (nI k) (-z) v) (-nI k) z (-v)) = lq_up (lq_up D (2 * (k - 1)) q (some (if z = 0 then 2 * v.toInt else v.toInt))) (2 * (k - 1) + 1) q' (some (if z = 0 then -(2 * v.toInt) else -v.toInt)) ∧ ((z = 0 ∧ q = 2 * (k - 1) ∧ q' = 2 * (k - 1) + 1) ∨ (¬ z = 0 ∧ q = lr_op (lr_pl z) ∧ q' = lr_pl z ∧ lr_pl z < 2 * N ∧ lr_pl z ≠ 2 * (k - 1) ∧ lr_pl z ≠ 2 * (k - 1) + 1)) := by
  have tz := hz.tm hN
  have t := hv.t
  have sk := nI_small (a := k) (by omega)
  have nk := nI_nz (a := k) (by omega) (by omega)
  have mk := mI_nz (a := k) (by omega) (by omega)
  have hp : lr_pl (nI k) = 2 * (k - 1) := lr_pl_nI (by omega) (by omega)
  have hpm : lr_pl (-nI k) = 2 * (k - 1) + 1 := lr_pl_mI (by omega) (by omega)
  have hp2 : 2 * (k - 1) < 2 * N := by omega
  have ho2 : 2 * (k - 1) + 1 < 2 * N := by omega
  have hb := lz_nf_B hn lz_T_gd
  have hD : lz_X (2 * N) (lm_dropM (iv_mat N B) k) = fun i j => if i / 2 = k - 1 ∨ j / 2 = k - 1 then none else lz_T (2 * N) B i j := by
    funext i j
    by_cases q : i < 2 * N ∧ j < 2 * N
    · rw [lz_X_in q.1 q.2]
      unfold lm_dropM
      by_cases w : i / 2 = k - 1 ∨ j / 2 = k - 1
      · rw [if_pos w, if_pos w, lz_v_E]
      · rw [if_neg w, if_neg w, lz_T_in q.1 q.2]; rfl
    · rw [lz_X_out q, lz_T_out q, ite_self]
  have hDs : ∀ i j, i < 2 * N → j < 2 * N → lz_X (2 * N) (lm_dropM (iv_mat N B) k) i j = lz_X (2 * N) (lm_dropM (iv_mat N B) k) j i := fun i j hi hj => by
    rw [hD]; simp only
    rw [hC.1 i hi j hj]
    by_cases w : i / 2 = k - 1 ∨ j / 2 = k - 1
    · rw [if_pos w, if_pos w.symm]
    · rw [if_neg w, if_neg (fun e => w e.symm)]
  have hDn : ∀ j, lz_X (2 * N) (lm_dropM (iv_mat N B) k) (2 * (k - 1)) j = none := fun j => by rw [hD]; simp only; rw [if_pos (Or.inl (by omega))]
  have hDn' : ∀ j, lz_X (2 * N) (lm_dropM (iv_mat N B) k) (2 * (k - 1) + 1) j = none := fun j => by rw [hD]; simp only; rw [if_pos (Or.inl (by omega))]
  have nv : okG (-v) := by
    have e : (-v).toInt = -v.toInt := lz_neg (by omega)
    constructor
    · rw [Int64.lt_iff_toInt_lt, e, show (-1000000000 : Int64).toInt = -1000000000 from by decide]; omega
    · rw [Int64.le_iff_toInt_le, e, show (1000000000 : Int64).toInt = 1000000000 from by decide]; omega
  have nve : (-v).toInt = -v.toInt := lz_neg (by omega)
  refine ⟨_, if z = 0 then 2 * (k - 1) else lr_op (lr_pl z), if z = 0 then 2 * (k - 1) + 1 else lr_pl z, rfl, ?_, ?_⟩
  · unfold lm_addM
    by_cases w : z = 0
    · subst w
      have e1 : lm_x1 (nI k) (-0) = nI k := by unfold lm_x1; rw [if_neg nk]
      have e2 : lm_x1 (-0) (nI k) = nI k := by unfold lm_x1; rw [if_pos (by decide)]
      have e3 : lm_x1 (-nI k) 0 = -nI k := by unfold lm_x1; rw [if_neg mk]
      have e4 : lm_x1 0 (-nI k) = -nI k := by unfold lm_x1; rw [if_pos rfl]
      have e5 : lm_av (nI k) (-0) v = 2 * v := by unfold lm_av; rw [if_neg nk, if_pos (by decide)]
      have e6 : lm_av (-nI k) 0 (-v) = 2 * (-v) := by unfold lm_av; rw [if_neg mk, if_pos rfl]
      rw [e1, e2, e3, e4, e5, e6, hp, hpm, if_pos rfl, if_pos rfl, if_pos rfl, if_pos rfl]
      have a1 := lz_adM (m := 2 * N) (X := lm_dropM (iv_mat N B) k) (v := 2 * v) (M := 0) (M' := 2000000000) hp2 hp2 rfl (by rw [hDn]; exact lz_b_n) (by rw [hv.v2]; exact lz_b_s.mpr (by omega)) (by omega) (by omega)
      rw [hDn, hv.v2] at a1
      have a2 := lz_adM (m := 2 * N) (X := lm_adM (lm_dropM (iv_mat N B) k) (2 * (k - 1)) (2 * (k - 1)) (2 * v)) (v := 2 * (-v)) (M := 0) (M' := 2000000000) ho2 ho2 rfl (by rw [a1, lq_up_ne (by omega), hDn']; exact lz_b_n) (by rw [nv.v2, nve]; exact lz_b_s.mpr (by omega)) (by omega) (by omega)
      rw [a1, nv.v2, nve, lq_up_ne (by omega), hDn', show (2 : Int) * -v.toInt = -(2 * v.toInt) by omega] at a2
      exact a2
    · have e1 : lm_x1 (nI k) (-z) = nI k := by unfold lm_x1; rw [if_neg nk]
      have e2 : lm_x1 (-z) (nI k) = -z := by unfold lm_x1; rw [if_neg (mz_nz w)]
      have e3 : lm_x1 (-nI k) z = -nI k := by unfold lm_x1; rw [if_neg mk]
      have e4 : lm_x1 z (-nI k) = z := by unfold lm_x1; rw [if_neg w]
      have e5 : lm_av (nI k) (-z) v = v := by unfold lm_av; rw [if_neg nk, if_neg (mz_nz w)]
      have e6 : lm_av (-nI k) z (-v) = -v := by unfold lm_av; rw [if_neg mk, if_neg w]
      have hq := tz.2 w
      have hqo := lr_op_lt hq
      have q1 : lr_pl z ≠ 2 * (k - 1) := fun e => hz1 (lr_pl_inj tz.1 sk w nk (by rw [e, hp]))
      have q2 : lr_pl z ≠ 2 * (k - 1) + 1 := fun e => hz2 (lr_pl_inj tz.1 (neg_small sk) w mk (by rw [e, hpm]))
      have q3 : lr_op (lr_pl z) ≠ 2 * (k - 1) + 1 := fun e => q1 (by rw [← lr_op_op (lr_pl z), e, lp_op_o])
      rw [e1, e2, e3, e4, e5, e6, hp, hpm, lr_pl_op tz.1 w, if_neg w, if_neg w, if_neg w, if_neg w]
      have a1 := lz_adM (m := 2 * N) (X := lm_dropM (iv_mat N B) k) (v := v) (M := 0) (M' := 2000000000) hp2 hqo (hDs _ _ hp2 hqo) (by rw [hDn]; exact lz_b_n) (by rw [hv.v]; exact lz_b_s.mpr (by omega)) (by omega) (by omega)
      rw [hDn, hv.v] at a1
      have a2 := lz_adM (m := 2 * N) (X := lm_adM (lm_dropM (iv_mat N B) k) (2 * (k - 1)) (lr_op (lr_pl z)) v) (v := -v) (M := 0) (M' := 2000000000) ho2 hq (by rw [a1, lq_up_ne (by omega), lq_up_ne (by omega)]; exact hDs _ _ ho2 hq) (by rw [a1, lq_up_ne (by omega), hDn']; exact lz_b_n) (by rw [nv.v, nve]; exact lz_b_s.mpr (by omega)) (by omega) (by omega)
      rw [a1, nv.v, nve, lq_up_ne (by omega), hDn'] at a2
      exact a2
  · by_cases w : z = 0
    · left; rw [if_pos w, if_pos w]; exact ⟨w, rfl, rfl⟩
    · right; rw [if_neg w, if_neg w]
      refine ⟨w, rfl, rfl, tz.2 w, fun e => hz1 (lr_pl_inj tz.1 sk w nk (by rw [e, hp])), fun e => hz2 (lr_pl_inj tz.1 (neg_small sk) w mk (by rw [e, hpm]))⟩
theorem lz_drop_X {N k : Nat} {B : Nat → Int64} : lz_X (2 * N) (lm_dropM (iv_mat N B) k) = fun i j => if i / 2 = k - 1 ∨ j / 2 = k - 1 then none else lz_T (2 * N) B i j := by
  funext i j
  by_cases q : i < 2 * N ∧ j < 2 * N
  · rw [lz_X_in q.1 q.2]
    unfold lm_dropM
    by_cases w : i / 2 = k - 1 ∨ j / 2 = k - 1
    · rw [if_pos w, if_pos w, lz_v_E]
    · rw [if_neg w, if_neg w, lz_T_in q.1 q.2]; rfl
  · rw [lz_X_out q, lz_T_out q, ite_self]
/-- the reference's rows close to the new bounds -/
theorem lp_is {N k : Nat} {B : Nat → Int64} {z : Int32} {v : Int64} {P : lr_M} (hN : N ≤ 5) (h1 : 1 ≤ k) (hk : k ≤ N) (hz : okT N z) (hv : okG v) (hC : lr_Cl N (lz_T (2 * N) B)) (hn : lz_nf (2 * N) (lz_T (2 * N) B)) (hP : ∀ i, i < 2 * N → ∀ j, j < 2 * N → P i j = lp_P (lz_T (2 * N) B) (lp_s k z) (lp_d k v) i j) (hCP : lr_Cl N P) : lr_Is N (lz_O (2 * N) (some 0) (lz_X (2 * N) (lm_setM (iv_mat N B) k z v))) P ∧ lr_Sym (2 * N) (lz_O (2 * N) (some 0) (lz_X (2 * N) (lm_setM (iv_mat N B) k z v))) ∧ lz_B 10000000000000000 (lz_O (2 * N) (some 0) (lz_X (2 * N) (lm_setM (iv_mat N B) k z v))) ∧ ∀ i, i < 2 * N → 0 ≤ lm_setM (iv_mat N B) k z v i (lr_op i) := by
  have tz := hz.tm hN
  have t := hv.t
  have hb := lz_nf_B hn lz_T_gd
  have sk := nI_small (a := k) (by omega)
  have nk := nI_nz (a := k) (by omega) (by omega)
  have mk := mI_nz (a := k) (by omega) (by omega)
  have hp : lr_pl (nI k) = 2 * (k - 1) := lr_pl_nI (by omega) (by omega)
  have hpm : lr_pl (-nI k) = 2 * (k - 1) + 1 := lr_pl_mI (by omega) (by omega)
  have hne : ¬ nI k = -nI k := fun e => by
    have := congrArg lr_pl e
    rw [hp, hpm] at this; omega
  by_cases hz0 : z = nI k ∨ z = -nI k
  · -- the name is turned
    have hM : lm_setM (iv_mat N B) k z v = lm_tnM (iv_mat N B) (lm_ls (nI k) z) (2 * k - 2) v := by
      unfold lm_setM
      by_cases w : z = nI k
      · rw [if_pos w]
      · rw [if_neg w, if_pos (hz0.resolve_left w)]
    have hsig : ∀ i, i < 2 * N → lp_s k z i = some (lm_tn (lm_ls (nI k) z) (2 * k - 2) i) := fun i hi => by
      have e0 : 2 * k - 2 = 2 * (k - 1) := by omega
      unfold lm_tn lm_ls
      rw [e0]
      by_cases w1 : i = 2 * (k - 1)
      · rw [w1, lp_s_p h1 (by omega)]
        rcases hz0 with e | e
        · rw [e, if_neg nk, if_neg hne, if_pos (by decide), hp]
        · rw [e, if_neg mk, if_pos rfl, if_neg (by decide), if_pos rfl, hpm, lp_op_p]
      · by_cases w2 : i = 2 * (k - 1) + 1
        · rw [w2, lp_s_o h1 (by omega) tz.1]
          rcases hz0 with e | e
          · rw [e, if_neg nk, if_neg hne, if_pos (by decide), hp, lp_op_p]
          · rw [e, if_neg mk, if_pos rfl, if_neg (by decide), if_neg (by omega), if_pos rfl, hpm]
        · rw [lp_s_ot (by omega) h1 (by omega) w1 w2]
          rw [if_neg w1, if_neg w2, ite_self]
    have hby : ∀ i, (lm_by (2 * k - 2) i v).toInt = lp_d k v i ∧ -1000000000 ≤ lp_d k v i ∧ lp_d k v i ≤ 1000000000 := fun i => by
      have e0 : 2 * k - 2 = 2 * (k - 1) := by omega
      unfold lm_by lp_d
      rw [e0]
      by_cases w : i = 2 * (k - 1)
      · rw [if_pos w, if_pos w]; exact ⟨rfl, t⟩
      · rw [if_neg w, if_neg w]
        by_cases w2 : i = 2 * (k - 1) + 1
        · rw [if_pos w2, if_pos w2, lz_neg (by omega)]; exact ⟨rfl, by omega⟩
        · rw [if_neg w2, if_neg w2]; exact ⟨by decide, by omega⟩
    have htn : ∀ i, i < 2 * N → lm_tn (lm_ls (nI k) z) (2 * k - 2) i < 2 * N := fun i hi => lm_tn_lt hi
    have cell : ∀ i, i < 2 * N → ∀ j, j < 2 * N → lz_v (lm_setM (iv_mat N B) k z v i j) = P i j := fun i hi j hj => by
      rw [hM, hP i hi j hj]
      unfold lm_tnM lp_P
      obtain ⟨a1, a2, a3⟩ := hby i
      obtain ⟨b1, b2, b3⟩ := hby j
      have hs : (lm_by (2 * k - 2) i v + lm_by (2 * k - 2) j v).toInt = lp_d k v i + lp_d k v j := by
        rw [lz_add (by rw [a1, b1]; omega) (by rw [a1, b1]; omega), a1, b1]
      have hsv : lz_v (lm_by (2 * k - 2) i v + lm_by (2 * k - 2) j v) = some (lp_d k v i + lp_d k v j) := by
        rw [lz_v_s (fun q => by rw [q, lz_ET] at hs; omega), hs]
      have hw : lz_v (iv_mat N B (lm_tn (lm_ls (nI k) z) (2 * k - 2) i) (lm_tn (lm_ls (nI k) z) (2 * k - 2) j)) = lz_T (2 * N) B (lm_tn (lm_ls (nI k) z) (2 * k - 2) i) (lm_tn (lm_ls (nI k) z) (2 * k - 2) j) := (lz_T_in (htn i hi) (htn j hj)).symm
      rw [hsig i hi, hsig j hj, lz_plus (M := 2000000000000000) (M' := 2000000000) (by rw [hw]; exact hb _ _) (by rw [hsv]; exact lz_b_s.mpr (by omega)) (by omega), hw, hsv]
      rfl
    have hXP : ∀ i, i < 2 * N → ∀ j, j < 2 * N → lz_X (2 * N) (lm_setM (iv_mat N B) k z v) i j = P i j := fun i hi j hj => by rw [lz_X_in hi hj, cell i hi j hj]
    have hCX := lr_Cl_congr (fun i hi j hj => (hXP i hi j hj).symm) hCP
    rw [lz_O_id hCX.2.1]
    refine ⟨?_, hCX.1, fun i j => ?_, fun i hi => iv_op0 rfl hi (lr_op_lt hi) (Or.inr (hCX.2.1 i hi))⟩
    · refine ⟨hCP, fun i hi j hj => by rw [hXP i hi j hj]; exact lr_le_refl _, fun Y hY hYX i hi j hj => by rw [← hXP i hi j hj]; exact hYX i hi j hj⟩
    · by_cases q : i < 2 * N ∧ j < 2 * N
      · rw [hXP i q.1 j q.2, hP i q.1 j q.2]
        unfold lp_P
        rw [hsig i q.1, hsig j q.2]
        have a := hby i
        have b := hby j
        exact lz_b_w (lz_b_ad (M := 2000000000000000) (M' := 2000000000) (hb _ _) (lz_b_s.mpr (by omega))) (by omega)
      · rw [lz_X_out q]; exact lz_b_n
  · have hz1 : ¬ z = nI k := fun e => hz0 (Or.inl e)
    have hz2 : ¬ z = -nI k := fun e => hz0 (Or.inr e)
    have hM : lm_setM (iv_mat N B) k z v = lm_addM (lm_addM (lm_dropM (iv_mat N B) k) (nI k) (-z) v) (-nI k) z (-v) := by
      unfold lm_setM; rw [if_neg hz1, if_neg hz2]
    obtain ⟨D, q, q', hD, hX, hq⟩ := lp_X2 hN h1 hk hz hv hC hn hz1 hz2
    rw [lz_drop_X] at hD
    rw [hM]
    generalize lm_addM (lm_addM (lm_dropM (iv_mat N B) k) (nI k) (-z) v) (-nI k) z (-v) = XX at hX ⊢
    generalize hX2 : lz_X (2 * N) XX = X2 at hX ⊢
    have hDv : ∀ i j, D i j = if i / 2 = k - 1 ∨ j / 2 = k - 1 then none else lz_T (2 * N) B i j := fun i j => by rw [← hD]
    have hok := lp_okk (v := v) hN h1 hk hz
    have hp2 : 2 * (k - 1) < 2 * N := by omega
    have ho2 : 2 * (k - 1) + 1 < 2 * N := by omega
    have hq2 : q < 2 * N ∧ q' < 2 * N := by
      rcases hq with ⟨_, e1, e2⟩ | ⟨_, e1, e2, e3, _⟩
      · rw [e1, e2]; omega
      · rw [e1, e2]; exact ⟨lr_op_lt e3, e3⟩
    have qne : q ≠ 2 * (k - 1) + 1 := by
      rcases hq with ⟨_, e1, e2⟩ | ⟨_, e1, e2, e3, e4, e5⟩
      · omega
      · rw [e1]; exact fun e => e4 (by rw [← lr_op_op (lr_pl z), e, lp_op_o])
    have qne' : q' ≠ 2 * (k - 1) := by
      rcases hq with ⟨_, e1, e2⟩ | ⟨_, e1, e2, e3, e4, e5⟩
      · omega
      · rw [e2]; exact e4
    have hdp : lp_d k v (2 * (k - 1)) = v.toInt := by unfold lp_d; rw [if_pos rfl]
    have hdo : lp_d k v (2 * (k - 1) + 1) = -v.toInt := by unfold lp_d; rw [if_neg (by omega), if_pos rfl]
    have hd0 : ∀ i, i ≠ 2 * (k - 1) → i ≠ 2 * (k - 1) + 1 → lp_d k v i = 0 := fun i w1 w2 => by unfold lp_d; rw [if_neg w1, if_neg w2]
    -- cells of X2
    have c1 : X2 (2 * (k - 1)) q = some (if z = 0 then 2 * v.toInt else v.toInt) := by rw [hX, lq_up_ne (by omega), lq_up_in]
    have c2 : X2 (2 * (k - 1) + 1) q' = some (if z = 0 then -(2 * v.toInt) else -v.toInt) := by rw [hX, lq_up_in]
    have c3 : ∀ i j, (i ≠ 2 * (k - 1) ∧ i ≠ 2 * (k - 1) + 1 ∧ j ≠ 2 * (k - 1) ∧ j ≠ 2 * (k - 1) + 1) → X2 i j = lz_T (2 * N) B i j := fun i j w => by
      rw [hX, lq_up_ne (by omega), lq_up_ne (by omega), hDv, if_neg (by omega)]
    have c4 : ∀ i j, X2 i j = D i j ∨ (((i = 2 * (k - 1) ∧ j = q) ∨ (i = q ∧ j = 2 * (k - 1))) ∧ X2 i j = some (if z = 0 then 2 * v.toInt else v.toInt)) ∨ (((i = 2 * (k - 1) + 1 ∧ j = q') ∨ (i = q' ∧ j = 2 * (k - 1) + 1)) ∧ X2 i j = some (if z = 0 then -(2 * v.toInt) else -v.toInt)) := fun i j => by
      rw [hX]
      rcases lq_up_or (C := lq_up D (2 * (k - 1)) q (some (if z = 0 then 2 * v.toInt else v.toInt))) (i := 2 * (k - 1) + 1) (k := q') (x := i) (y := j) (c := some (if z = 0 then -(2 * v.toInt) else -v.toInt)) with ⟨w, e⟩ | ⟨_, e⟩
      · right; right; exact ⟨w, e⟩
      · rw [e]
        rcases lq_up_or (C := D) (i := 2 * (k - 1)) (k := q) (x := i) (y := j) (c := some (if z = 0 then 2 * v.toInt else v.toInt)) with ⟨w, e⟩ | ⟨_, e⟩
        · right; left; exact ⟨w, e⟩
        · left; exact e
    have hsy : lr_Sym (2 * N) X2 := by
      rw [hX]
      refine lq_up_sym (lq_up_sym (fun i hi j hj => ?_))
      rw [hDv, hDv, hC.1 i hi j hj]
      by_cases w3 : i / 2 = k - 1 ∨ j / 2 = k - 1
      · rw [if_pos w3, if_pos w3.symm]
      · rw [if_neg w3, if_neg (fun e => w3 e.symm)]
    have hopq : ∀ i, i < 2 * N → X2 i (lr_op i) = none ∨ X2 i (lr_op i) = some 0 := fun i hi => by
      have hb2 : ¬ (i = 2 * (k - 1) ∧ lr_op i = q) ∧ ¬ (i = q ∧ lr_op i = 2 * (k - 1)) ∧ ¬ (i = 2 * (k - 1) + 1 ∧ lr_op i = q') ∧ ¬ (i = q' ∧ lr_op i = 2 * (k - 1) + 1) := by
        refine ⟨?_, ?_, ?_, ?_⟩
        · rintro ⟨e1, e2⟩; rw [e1, lp_op_p] at e2; exact qne e2.symm
        · rintro ⟨e1, e2⟩; exact qne (by rw [← e1, ← lr_op_op i, e2, lp_op_p])
        · rintro ⟨e1, e2⟩; rw [e1, lp_op_o] at e2; exact qne' e2.symm
        · rintro ⟨e1, e2⟩; exact qne' (by rw [← e1, ← lr_op_op i, e2, lp_op_o])
      rcases c4 i (lr_op i) with e | ⟨w, _⟩ | ⟨w, _⟩
      · rw [e, hDv]
        split
        · exact Or.inl rfl
        · exact Or.inr (hC.2.1 i hi)
      · rcases w with w | w
        · exact absurd w hb2.1
        · exact absurd w hb2.2.1
      · rcases w with w | w
        · exact absurd w hb2.2.2.1
        · exact absurd w hb2.2.2.2
    have sp := lp_s_p (z := z) h1 (show k ≤ 5 by omega)
    have so := lp_s_o (z := z) h1 (show k ≤ 5 by omega) tz.1
    have sot : ∀ i, i < 2 * N → i ≠ 2 * (k - 1) → i ≠ 2 * (k - 1) + 1 → lp_s k z i = some i := fun i hi w1 w2 => lp_s_ot (by omega) h1 (by omega) w1 w2
    -- the new bounds at the two rows
    have pq : P (2 * (k - 1)) q = some (if z = 0 then 2 * v.toInt else v.toInt) := by
      rw [hP _ hp2 _ hq2.1]
      unfold lp_P
      rcases hq with ⟨e0, e1, e2⟩ | ⟨e0, e1, e2, e3, e4, e5⟩
      · rw [e1, sp, hdp, if_pos e0, if_pos e0]; simp [lp_B, lr_ad]; omega
      · have w1 : q ≠ 2 * (k - 1) := fun e => e5 (by rw [← lr_op_op (lr_pl z), ← e1, e, lp_op_p])
        rw [sp, if_neg e0, if_neg e0, sot q hq2.1 w1 qne, hdp, hd0 q w1 qne]
        show lr_ad (lz_T (2 * N) B (lr_pl z) q) _ = _
        rw [e1, hC.2.1 _ e3]; simp [lr_ad]
    have pq' : P (2 * (k - 1) + 1) q' = some (if z = 0 then -(2 * v.toInt) else -v.toInt) := by
      rw [hP _ ho2 _ hq2.2]
      unfold lp_P
      rcases hq with ⟨e0, e1, e2⟩ | ⟨e0, e1, e2, e3, e4, e5⟩
      · rw [e2, so, hdo, if_pos e0, if_pos e0]; simp [lp_B, lr_ad]; omega
      · rw [so, if_neg e0, if_neg e0, sot q' hq2.2 qne' (by rw [e2]; exact e5), hdo, hd0 q' qne' (by rw [e2]; exact e5)]
        show lr_ad (lz_T (2 * N) B (lr_op (lr_pl z)) q') _ = _
        rw [e2, hC.1 _ (lr_op_lt e3) _ e3, hC.2.1 _ e3]; simp [lr_ad]
    refine ⟨⟨hCP, fun i hi j hj => ?_, fun Y hY hYX => ?_⟩, lz_O_sym hsy, fun i j => ?_, fun i hi => iv_op0 hX2 hi (lr_op_lt hi) (hopq i hi)⟩
    · unfold lz_O
      by_cases w : i < 2 * N ∧ j = lr_op i
      · rw [if_pos w, w.2, hCP.2.1 i hi]; exact lr_le_refl _
      · rw [if_neg w]
        rcases c4 i j with e | ⟨w1, e⟩ | ⟨w1, e⟩
        · rw [e, hDv]
          by_cases w3 : i / 2 = k - 1 ∨ j / 2 = k - 1
          · rw [if_pos w3]; exact lr_le_none _
          · rw [if_neg w3, hP i hi j hj]
            unfold lp_P
            rw [sot i hi (by omega) (by omega), sot j hj (by omega) (by omega), hd0 i (by omega) (by omega), hd0 j (by omega) (by omega)]
            show lr_le (lr_ad (lz_T (2 * N) B i j) _) _
            cases lz_T (2 * N) B i j <;> simp [lr_ad, lr_le]
        · rw [e]
          rcases w1 with ⟨rfl, rfl⟩ | ⟨rfl, rfl⟩
          · rw [pq]; exact lr_le_refl _
          · rw [hCP.1 _ hi _ hj, pq]; exact lr_le_refl _
        · rw [e]
          rcases w1 with ⟨rfl, rfl⟩ | ⟨rfl, rfl⟩
          · rw [pq']; exact lr_le_refl _
          · rw [hCP.1 _ hi _ hj, pq']; exact lr_le_refl _
    · have hYl : ∀ i, i < 2 * N → ∀ j, j < 2 * N → j ≠ lr_op i → lr_le (Y i j) (X2 i j) := fun i hi j hj w => by
        have := hYX i hi j hj
        unfold lz_O at this
        rw [if_neg (fun e => w e.2)] at this; exact this
      have y1 := hYl _ hp2 q hq2.1 (by rw [lp_op_p]; exact qne)
      have y2 := hYl _ ho2 q' hq2.2 (by rw [lp_op_o]; exact qne')
      rw [c1] at y1
      rw [c2] at y2
      have res := lp_gr (σ := lp_s k z) (δ := lp_d k v) hC hok hY (fun i hi s hs => ?_) (fun i hi hs => ?_) (fun i hi j hj s t' hs ht => ?_)
      · intro i hi j hj
        rw [hP i hi j hj]; exact res i hi j hj
      · by_cases w1 : i = 2 * (k - 1)
        · subst w1
          rw [sp] at hs
          rcases hq with ⟨e0, e1, e2⟩ | ⟨e0, e1, e2, e3, e4, e5⟩
          · rw [if_pos e0] at hs; exact absurd hs (by simp)
          · rw [if_neg e0] at hs y1; injection hs with hs
            rw [← hs, hdp, ← e1]; exact y1
        · by_cases w2 : i = 2 * (k - 1) + 1
          · subst w2
            rw [so] at hs
            rcases hq with ⟨e0, e1, e2⟩ | ⟨e0, e1, e2, e3, e4, e5⟩
            · rw [if_pos e0] at hs; exact absurd hs (by simp)
            · rw [if_neg e0] at hs y2; injection hs with hs
              rw [← hs, hdo, lr_op_op, ← e2]; exact y2
          · rw [sot i hi w1 w2] at hs; injection hs with hs
            rw [← hs, hd0 i w1 w2, hY.2.1 i hi]; exact lr_le_refl _
      · by_cases w1 : i = 2 * (k - 1)
        · subst w1
          rw [sp] at hs
          rcases hq with ⟨e0, e1, e2⟩ | ⟨e0, _⟩
          · rw [if_pos e0] at y1
            rw [hdp]
            rw [e1] at y1
            exact y1
          · rw [if_neg e0] at hs; exact absurd hs (by simp)
        · by_cases w2 : i = 2 * (k - 1) + 1
          · subst w2
            rw [so] at hs
            rcases hq with ⟨e0, e1, e2⟩ | ⟨e0, _⟩
            · rw [if_pos e0] at y2
              rw [hdo, show (2 : Int) * -v.toInt = -(2 * v.toInt) by omega]
              rw [e2] at y2
              exact y2
            · rw [if_neg e0] at hs; exact absurd hs (by simp)
          · rw [sot i hi w1 w2] at hs; exact absurd hs (by simp)
      · have other : ∀ i, i < 2 * N → ∀ s, lp_s k z i = some s → s < 2 * N ∧ s ≠ 2 * (k - 1) ∧ s ≠ 2 * (k - 1) + 1 := fun i hi s hs => by
          refine ⟨hok.1 i hi s hs, ?_⟩
          by_cases w1 : i = 2 * (k - 1)
          · subst w1
            rw [sp] at hs
            rcases hq with ⟨e0, e1, e2⟩ | ⟨e0, e1, e2, e3, e4, e5⟩
            · rw [if_pos e0] at hs; exact absurd hs (by simp)
            · rw [if_neg e0] at hs; injection hs with hs; rw [← hs]; exact ⟨e4, e5⟩
          · by_cases w2 : i = 2 * (k - 1) + 1
            · subst w2
              rw [so] at hs
              rcases hq with ⟨e0, e1, e2⟩ | ⟨e0, e1, e2, e3, e4, e5⟩
              · rw [if_pos e0] at hs; exact absurd hs (by simp)
              · rw [if_neg e0] at hs; injection hs with hs
                rw [← hs, ← e1]
                exact ⟨fun e => e5 (by rw [← lr_op_op (lr_pl z), ← e1, e, lp_op_p]), qne⟩
            · rw [sot i hi w1 w2] at hs; injection hs with hs; rw [← hs]; exact ⟨w1, w2⟩
        obtain ⟨s1, s2, s3⟩ := other i hi s hs
        obtain ⟨t1, t2, t3⟩ := other j hj t' ht
        by_cases w : t' = lr_op s
        · rw [w, hY.2.1 s s1, hC.2.1 s s1]; exact lr_le_refl _
        · rw [← c3 s t' ⟨s2, s3, t2, t3⟩]; exact hYl s s1 t' t1 w
    · unfold lz_O; split
      · exact lz_b_s.mpr (by omega)
      · rcases c4 i j with e | ⟨_, e⟩ | ⟨_, e⟩ <;> rw [e]
        · rw [hDv]; split
          · exact lz_b_n
          · exact lz_b_w (hb i j) (by omega)
        · exact lz_b_s.mpr (by split <;> omega)
        · exact lz_b_s.mpr (by split <;> omega)
theorem iv_set {N k k1 : Nat} {K B : Nat → Nat → Int64} {E Em : Nat → Int32} {R : Nat → Int64} {Km Bm K1 B1 : Nat → Int64} {E1 : Int32} {z : Int32} {v : Int64} (hN : N ≤ 5) (h : iv_A N K B E R Em) (hk : k < 8) (h1 : 1 ≤ k1) (hk1 : k1 ≤ N) (hz : okT N z) (hv : okG v) (ha : lr_asgO Km Bm (2 * N) (B k) (E k) (nI k1) z v K1 B1 E1) : ∃ o, (∀ q q1, q < 8 → nI k = nI q → 1 ≤ q1 → q1 ≤ N → nI k1 = nI q1 → okT N z → okG v → Em q = 0 → lm_Cl N (lm_setM (iv_mat N (B q)) q1 z v) o) ∧
    (∀ th r' R1 Em1, lm_setO N R Em (nI k) (nI k1) z v o th r' R1 Em1 → (∀ K2 B2 E2 r, lr_tkO (2 * N) K1 B1 E1 (K k) (B k) K2 B2 E2 r → th = nI 0 ∧ r' = r ∧ iv_A N (va_up K k K2) (va_up B k B2) (va_up E k E2) R1 Em1) ∧ (E1 = 0 → lr_tooFar B1 (2 * N) → th = nI 3 ∧ iv_A N K B E R1 Em1)) := by
  obtain ⟨h2, _, m2⟩ := h k hk
  have hkN : okN N (nI k1) := ⟨fun w => by
    have := (nI_ltI (a := k1) (b := 1) (by omega) (by omega)).mp w; omega, (nI_leI (by omega) (by omega)).mpr hk1⟩
  have hro : ∀ {o th r' R1 Em1}, lm_setO N R Em (nI k) (nI k1) z v o th r' R1 Em1 → ((¬ E k = 0 ∧ th = nI 0 ∧ ∃ F, lm_kcO (nI 0) F N k R Em R1 Em1 r') ∨ (E k = 0 ∧ ∃ F r1, lm_res N o F r1 ∧ ((¬ r1 = 0 ∧ (∀ Y, o = some Y → lm_farM N Y) ∧ th = nI 3 ∧ r' = nI 0 ∧ R1 = R ∧ Em1 = Em) ∨ ((∀ Y, o = some Y → ¬ lm_farM N Y) ∧ th = nI 0 ∧ lm_kcO r1 F N k R Em R1 Em1 r')))) := by
    intro o th r' R1 Em1 hr
    rcases hr with ⟨w, _⟩ | ⟨_, w, _⟩ | ⟨a, b, l1, e1, _, _, _, _, _, hr⟩
    · exact absurd ⟨iv_S hk, hkN, hz⟩ w
    · exact absurd hv w
    · have := iv_8 hk l1 e1
      subst this
      rw [m2] at hr
      exact hr
  rcases ha with ⟨he, rfl, rfl, rfl⟩ | ⟨he, hB1, rfl, hkb⟩
  · refine ⟨none, fun q q1 l e _ _ _ _ _ w => ?_, fun th r' R1 Em1 hr => ⟨fun K2 B2 E2 r ht => ?_, fun w => absurd w (by decide)⟩⟩
    · rw [← iv_8 hk l e, m2] at w; exact absurd w he
    · rcases hro hr with ⟨_, q1, F, q2⟩ | ⟨w, _⟩
      · exact ⟨q1, iv_fin0 h (by decide) lz_T_all q2 K2 B2 E2 r ht⟩
      · exact absurd w he
  · rw [he] at hB1
    subst hB1
    obtain ⟨i2, n2⟩ := h2.st he
    have hok := lp_okk (v := v) hN h1 hk1 hz
    have hcl := lp_cl i2.1 hok
    have cell : ∀ i, i < 2 * N → ∀ j, j < 2 * N → lz_v (lr_gA (B k) 0 (2 * N) (nI k1) z v i j) = lp_P (lz_T (2 * N) (B k)) (lp_s k1 z) (lp_d k1 v) i j ∧ lz_b 2000000002000000000 (lp_P (lz_T (2 * N) (B k)) (lp_s k1 z) (lp_d k1 v) i j) := fun i hi j hj => lp_gA hN h1 hk1 hz hv i2.1 n2 hi hj
    have eG : ∀ i, i < 2 * N → ∀ j, j < 2 * N → lz_T (2 * N) (lr_symO (lr_gA (B k) 0 (2 * N) (nI k1) z v) (2 * N) (2 * N) (lr_allB Bm (2 * N))) i j = lp_P (lz_T (2 * N) (B k)) (lp_s k1 z) (lp_d k1 v) i j := fun i hi j hj => by
      rw [lz_T_sym (fun i hi j hj => by rw [(cell i hi j hj).1, (cell j hj i hi).1]; exact hcl.1 i hi j hj), lz_X_in hi hj, (cell i hi j hj).1]
    have hC1 := lr_Cl_congr (fun i hi j hj => (eG i hi j hj).symm) hcl
    have hb1 : lz_B 2100000000000000000 (lz_T (2 * N) (lr_symO (lr_gA (B k) 0 (2 * N) (nI k1) z v) (2 * N) (2 * N) (lr_allB Bm (2 * N)))) := fun i j => by
      by_cases q : i < 2 * N ∧ j < 2 * N
      · rw [eG i q.1 j q.2]; exact lz_b_w (cell i q.1 j q.2).2 (by omega)
      · rw [lz_T_out q]; exact lz_b_n
    obtain ⟨s1, s2, s3, s4⟩ := lp_is hN h1 hk1 hz hv i2.1 n2 eG hC1
    refine ⟨some (iv_mat N (lr_symO (lr_gA (B k) 0 (2 * N) (nI k1) z v) (2 * N) (2 * N) (lr_allB Bm (2 * N)))), fun q q1 l e l1 l2 e1 _ _ _ => ?_, fun th r' R1 Em1 hr => ?_⟩
    · have := iv_8 hk l e
      have := iv_8 (show k1 < 8 by omega) (show q1 < 8 by omega) e1
      subst_vars
      exact iv_R1 hN rfl s2 s3 s4 s1 hb1 (by omega) (by omega)
    · rcases hro hr with ⟨w, _⟩ | ⟨_, hr⟩
      · exact absurd he w
      · refine iv_fin hN h (Or.inl ⟨by decide, ?_, hC1, hb1, rfl⟩) hr
        rcases hkb with ⟨w, _⟩ | ⟨_, w⟩
        · exact absurd (by decide) w
        · rw [w, lz_T_kb (by omega)]
