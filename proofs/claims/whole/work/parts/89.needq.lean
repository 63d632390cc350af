/-! needed, held together -/
def nd_a (κ : Nat × Nat) : Int32 := lr_term κ.1
def nd_b (κ : Nat × Nat) : Int32 := if κ.1 = κ.2 then nI 0 else lr_term κ.2
def nd_v (X : Nat → Nat → Int64) (κ : Nat × Nat) : Int64 := lm_bd X (nd_a κ) (nd_b κ)
def nd_p (X : Nat → Nat → Int64) (κ : Nat × Nat) : Bool := decide (¬ nd_v X κ = lr_E)
def nd_f (N : Nat) (X : Nat → Nat → Int64) : List (Nat × Nat) := (nd_k (2 * N)).filter (nd_p X)
theorem nd_lst {N : Nat} {X : Nat → Nat → Int64} {nA nB : Nat → Int32} {nC : Nat → Int64} {Lf : Nat → Int32} : lm_lst X N nA nB nC Lf = (nd_k (2 * N)).foldl (fun S κ => lm_ls1 (nd_v X κ) (nd_a κ) (nd_b κ) S) (0, nA, nB, nC, Lf) := by
  unfold lm_lst nd_k
  rw [List.foldl_append]
  have e1 : ∀ S, lm_t1 X (2 * N) S = (nd_k1 (2 * N)).foldl (fun S κ => lm_ls1 (nd_v X κ) (nd_a κ) (nd_b κ) S) S := fun S => by
    unfold lm_t1 nd_k1
    rw [List.foldl_map, lr_it_fold]
    have : ∀ i, nd_b (i, i) = nI 0 := fun i => if_pos rfl
    simp only [nd_v, this]
    rfl
  have e2 : ∀ S, lm_t3 X (2 * N) (2 * N) S = (nd_k2 (2 * N)).foldl (fun S κ => lm_ls1 (nd_v X κ) (nd_a κ) (nd_b κ) S) S := fun S => by
    unfold lm_t3 nd_k2
    rw [nd_foldl_flat, ← lr_it_fold (f := fun i c => List.foldl (fun S κ => lm_ls1 (nd_v X κ) (nd_a κ) (nd_b κ) S) c (List.map (fun t => (i, lr_nx i + t)) (List.range (2 * N - lr_nx i))))]
    refine lr_it_eq (fun i hi S => ?_) S
    unfold lm_t2
    rw [List.foldl_map, lr_it_fold]
    have : ∀ t, nd_b (i, lr_nx i + t) = lr_term (lr_nx i + t) := fun t => if_neg (by show ¬ i = lr_nx i + t; unfold lr_nx; omega)
    simp only [nd_v, this]
    rfl
  rw [e1, e2]
theorem nd_ls {X : Nat → Nat → Int64} : ∀ (l : List (Nat × Nat)) (S : lm_N), (l.foldl (fun S κ => lm_ls1 (nd_v X κ) (nd_a κ) (nd_b κ) S) S).1 = S.1 + (l.filter (nd_p X)).length ∧ (∀ r, r < S.1 → (l.foldl (fun S κ => lm_ls1 (nd_v X κ) (nd_a κ) (nd_b κ) S) S).2.1 r = S.2.1 r ∧ (l.foldl (fun S κ => lm_ls1 (nd_v X κ) (nd_a κ) (nd_b κ) S) S).2.2.1 r = S.2.2.1 r ∧ (l.foldl (fun S κ => lm_ls1 (nd_v X κ) (nd_a κ) (nd_b κ) S) S).2.2.2.1 r = S.2.2.2.1 r ∧ (l.foldl (fun S κ => lm_ls1 (nd_v X κ) (nd_a κ) (nd_b κ) S) S).2.2.2.2 r = S.2.2.2.2 r) ∧ (∀ r κ, (l.filter (nd_p X))[r]? = some κ → (l.foldl (fun S κ => lm_ls1 (nd_v X κ) (nd_a κ) (nd_b κ) S) S).2.1 (S.1 + r) = nd_a κ ∧ (l.foldl (fun S κ => lm_ls1 (nd_v X κ) (nd_a κ) (nd_b κ) S) S).2.2.1 (S.1 + r) = nd_b κ ∧ (l.foldl (fun S κ => lm_ls1 (nd_v X κ) (nd_a κ) (nd_b κ) S) S).2.2.2.1 (S.1 + r) = nd_v X κ ∧ (l.foldl (fun S κ => lm_ls1 (nd_v X κ) (nd_a κ) (nd_b κ) S) S).2.2.2.2 (S.1 + r) = nI 1)
  | [], S => ⟨rfl, fun r _ => ⟨rfl, rfl, rfl, rfl⟩, fun r κ h => by simp at h⟩
  | κ :: l, S => by
    obtain ⟨i1, i2, i3⟩ := nd_ls l (lm_ls1 (nd_v X κ) (nd_a κ) (nd_b κ) S)
    rw [List.foldl_cons]
    by_cases w : nd_v X κ = lr_E
    · have e : lm_ls1 (nd_v X κ) (nd_a κ) (nd_b κ) S = S := by unfold lm_ls1; rw [if_pos w]
      have ef : (κ :: l).filter (nd_p X) = l.filter (nd_p X) := List.filter_cons_of_neg (by unfold nd_p; simp [w])
      rw [e] at i1 i2 i3 ⊢
      rw [ef]
      exact ⟨i1, i2, i3⟩
    · have e : lm_ls1 (nd_v X κ) (nd_a κ) (nd_b κ) S = (S.1 + 1, upd S.2.1 S.1 (nd_a κ), upd S.2.2.1 S.1 (nd_b κ), vp_updL S.2.2.2.1 S.1 (nd_v X κ), upd S.2.2.2.2 S.1 (nI 1)) := by unfold lm_ls1; rw [if_neg w]
      have ef : (κ :: l).filter (nd_p X) = κ :: l.filter (nd_p X) := List.filter_cons_of_pos (by unfold nd_p; simp [w])
      rw [e] at i1 i2 i3 ⊢
      rw [ef]
      refine ⟨?_, fun r hr => ?_, fun r κ' hr => ?_⟩
      · rw [i1, List.length_cons]; show S.1 + 1 + _ = _; omega
      · obtain ⟨a, b, c, d⟩ := i2 r (show r < S.1 + 1 by omega)
        rw [a, b, c, d]
        have q : r ≠ S.1 := by omega
        exact ⟨lm_upd_n q, lm_upd_n q, vl_ne q, lm_upd_n q⟩
      · cases r with
        | zero =>
          rw [List.getElem?_cons_zero] at hr
          injection hr with hr
          subst hr
          obtain ⟨a, b, c, d⟩ := i2 S.1 (show S.1 < S.1 + 1 by omega)
          exact ⟨a.trans (lm_upd_k _ _ _), b.trans (lm_upd_k _ _ _), c.trans (vl_eq _ _ _), d.trans (lm_upd_k _ _ _)⟩
        | succ r =>
          rw [List.getElem?_cons_succ] at hr
          have := i3 r κ' hr
          rw [show S.1 + (r + 1) = S.1 + 1 + r by omega]
          exact this
/-- which matrix the rows that are left tell -/
def nd_Ar (N : Nat) (W : lr_M) (fk : List (Nat × Nat)) (fl : Nat → Int32) (A : lr_M) : Prop := lz_gd (2 * N) A ∧ (∀ i, i < 2 * N → A i (lr_op i) = some 0) ∧ ∀ i j, i < 2 * N → j < 2 * N → i ≤ j → j ≠ lr_op i → A i j = A j i ∧ ((∃ q, fk[q]? = some (i, j) ∧ ¬ fl q = 0) → A i j = W i j) ∧ ((∀ q, fk[q]? = some (i, j) → fl q = 0) → A i j = none)
theorem nd_Ar_eq {N : Nat} {W : lr_M} {fk : List (Nat × Nat)} {fl : Nat → Int32} {A A' : lr_M} (h : nd_Ar N W fk fl A) (h' : nd_Ar N W fk fl A') : A = A' := by
  have key : ∀ i j, i < 2 * N → j < 2 * N → i ≤ j → A i j = A' i j ∧ A j i = A' j i := fun i j hi hj hij => by
    by_cases w : j = lr_op i
    · have e : A j i = A' j i := by
        have a := h.2.1 j hj
        have b := h'.2.1 j hj
        rw [w, lr_op_op] at a b
        rw [w, a, b]
      rw [e, w, h.2.1 i hi, h'.2.1 i hi]; exact ⟨rfl, rfl⟩
    · obtain ⟨s, a, b⟩ := h.2.2 i j hi hj hij w
      obtain ⟨s', a', b'⟩ := h'.2.2 i j hi hj hij w
      have e : A i j = A' i j := by
        by_cases q : ∃ q, fk[q]? = some (i, j) ∧ ¬ fl q = 0
        · rw [a q, a' q]
        · have q' : ∀ q, fk[q]? = some (i, j) → fl q = 0 := fun z hz => Classical.byContradiction fun w => q ⟨z, hz, w⟩
          rw [b q', b' q']
      exact ⟨e, by rw [← s, ← s', e]⟩
  funext i j
  by_cases q : i < 2 * N ∧ j < 2 * N
  · rcases Nat.le_total i j with w | w
    · exact (key i j q.1 q.2 w).1
    · exact (key j i q.2 q.1 w).2
  · rw [h.1 i j q, h'.1 i j q]
theorem nd_add {N : Nat} {B : Nat → Int64} {X : Nat → Nat → Int64} {κ : Nat × Nat} (hN : N ≤ 5) (hC : lr_Cl N (lz_T (2 * N) B)) (hn : lz_nf (2 * N) (lz_T (2 * N) B)) (hk : κ ∈ nd_k (2 * N)) (hs : lr_Sym (2 * N) (lz_X (2 * N) X)) (hb : lz_B 2000000000000000 (lz_X (2 * N) X)) (hne : ¬ nd_v (iv_mat N B) κ = lr_E) : lz_X (2 * N) (lm_addM X (nd_a κ) (nd_b κ) (nd_v (iv_mat N B) κ)) = lq_up (lz_X (2 * N) X) κ.1 κ.2 (lr_mn (lz_X (2 * N) X κ.1 κ.2) (lz_T (2 * N) B κ.1 κ.2)) ∧ lz_v (nd_v (iv_mat N B) κ) = lz_hv κ.1 κ.2 (lz_T (2 * N) B κ.1 κ.2) := by
  obtain ⟨h1, h2, h3, h4, h5⟩ := nd_k_in (by omega) hk
  have t1 := lm_term_nz (q := κ.1) (by omega)
  have p1 := lr_term_pl (i := κ.1) (by omega)
  have hbW := lz_nf_B hn lz_T_gd
  by_cases w : κ.1 = κ.2
  · have eb : nd_b κ = nI 0 := if_pos w
    have ev : nd_v (iv_mat N B) κ = lm_hf (B (κ.1 * (2 * N) + κ.1)) := by
      unfold nd_v lm_bd nd_a
      rw [eb, if_neg (fun e => t1 (by rw [e]; decide)), if_neg t1, if_pos (by decide), p1]; rfl
    have vv : lz_v (nd_v (iv_mat N B) κ) = lr_hf (lz_T (2 * N) B κ.1 κ.1) := by
      rw [ev]
      have e := hC.e2 κ.1 h1
      rw [lz_T_in h1 h1] at e ⊢
      exact lz_half (lz_nf_v hn h1 h1) (by omega) e
    have v2 : lz_v (2 * nd_v (iv_mat N B) κ) = lz_T (2 * N) B κ.1 κ.1 := by
      have := lz_dbl (M := 2000000000000000) (c := nd_v (iv_mat N B) κ) (by rw [vv]; exact lz_b_hf (hbW _ _) (by omega)) (by omega)
      rw [if_neg hne, vv, lz_dbhf (hC.e2 κ.1 h1)] at this
      exact this
    refine ⟨?_, by rw [vv, ← w]; unfold lz_hv; rw [if_pos rfl]⟩
    unfold lm_addM
    have x1 : lm_x1 (nd_a κ) (nd_b κ) = nd_a κ := by unfold lm_x1; rw [if_neg (show ¬ nd_a κ = 0 from t1)]
    have x2 : lm_x1 (nd_b κ) (nd_a κ) = nd_a κ := by unfold lm_x1; rw [eb, if_pos (by decide)]
    have x3 : ∀ v, lm_av (nd_a κ) (nd_b κ) v = 2 * v := fun v => by unfold lm_av; rw [if_neg (show ¬ nd_a κ = 0 from t1), eb, if_pos (by decide)]
    rw [x1, x2, x3]
    unfold nd_a
    rw [p1, ← w]
    have := lz_adM (m := 2 * N) (X := X) (v := 2 * nd_v (iv_mat N B) κ) (M := 2000000000000000) (M' := 2000000000000000) h1 h1 rfl (hb _ _) (by rw [v2]; exact hbW _ _) (by omega) (by omega)
    rw [v2] at this
    exact this
  · have eb : nd_b κ = lr_term κ.2 := if_neg w
    have t2 := lm_term_nz (q := κ.2) (by omega)
    have p2 := lr_term_pl (i := κ.2) (by omega)
    have hno : ¬ lr_term κ.1 = -lr_term κ.2 := fun e => h4 (by
      rw [← lr_term_op (by omega)] at e
      have := congrArg lr_pl e
      rw [p1, lr_term_pl (lr_op_lt (n := 5) (by omega))] at this
      rw [this, lr_op_op])
    have ev : nd_v (iv_mat N B) κ = B (κ.1 * (2 * N) + κ.2) := by
      unfold nd_v lm_bd nd_a
      rw [eb, if_neg hno, if_neg t1, if_neg t2, p1, p2]; rfl
    have vv : lz_v (nd_v (iv_mat N B) κ) = lz_T (2 * N) B κ.1 κ.2 := by rw [ev, lz_T_in h1 h2]
    refine ⟨?_, by rw [vv]; unfold lz_hv; rw [if_neg w]⟩
    unfold lm_addM
    have x1 : lm_x1 (nd_a κ) (nd_b κ) = lr_term κ.1 := by unfold lm_x1 nd_a; rw [if_neg t1]
    have x2 : lm_x1 (nd_b κ) (nd_a κ) = lr_term κ.2 := by unfold lm_x1; rw [eb, if_neg t2]
    have x3 : ∀ v, lm_av (nd_a κ) (nd_b κ) v = v := fun v => by unfold lm_av nd_a; rw [if_neg t1, eb, if_neg t2]
    rw [x1, x2, x3, p1, p2]
    have := lz_adM (m := 2 * N) (X := X) (v := nd_v (iv_mat N B) κ) (M := 2000000000000000) (M' := 2000000000000000) h1 h2 (hs _ h1 _ h2) (hb _ _) (by rw [vv]; exact hbW _ _) (by omega) (by omega)
    rw [vv] at this
    exact this
theorem nd_vE {N : Nat} {B : Nat → Int64} {κ : Nat × Nat} (hN : N ≤ 5) (hk : κ ∈ nd_k (2 * N)) : nd_v (iv_mat N B) κ = lr_E ↔ lz_T (2 * N) B κ.1 κ.2 = none := by
  obtain ⟨h1, h2, h3, h4, h5⟩ := nd_k_in (by omega) hk
  have t1 := lm_term_nz (q := κ.1) (by omega)
  have p1 := lr_term_pl (i := κ.1) (by omega)
  rw [lz_T_in h1 h2, lz_v_n]
  by_cases w : κ.1 = κ.2
  · have eb : nd_b κ = nI 0 := if_pos w
    have ev : nd_v (iv_mat N B) κ = lm_hf (B (κ.1 * (2 * N) + κ.1)) := by
      unfold nd_v lm_bd nd_a
      rw [eb, if_neg (fun e => t1 (by rw [e]; decide)), if_neg t1, if_pos (by decide), p1]; rfl
    rw [ev, ← w]
    unfold lm_hf
    by_cases q : B (κ.1 * (2 * N) + κ.1) = lr_E
    · rw [if_pos q]; exact ⟨fun _ => q, fun _ => rfl⟩
    · rw [if_neg q]
      refine ⟨fun e => ?_, fun e => absurd e q⟩
      exfalso
      have l1 := Int64.toInt_lt (B (κ.1 * (2 * N) + κ.1))
      have l2 := Int64.le_toInt (B (κ.1 * (2 * N) + κ.1))
      have ed : (B (κ.1 * (2 * N) + κ.1) / 2).toInt = ((B (κ.1 * (2 * N) + κ.1)).toInt.tdiv 2).bmod (2 ^ 64) := by
        rw [Int64.toInt_div]; rfl
      rw [e, lz_ET, lz_tdiv] at ed
      rw [Int.bmod_eq_of_le_mul_two (by split <;> omega) (by split <;> omega)] at ed
      split at ed <;> omega
  · have eb : nd_b κ = lr_term κ.2 := if_neg w
    have t2 := lm_term_nz (q := κ.2) (by omega)
    have p2 := lr_term_pl (i := κ.2) (by omega)
    have hno : ¬ lr_term κ.1 = -lr_term κ.2 := fun e => h4 (by
      rw [← lr_term_op (by omega)] at e
      have := congrArg lr_pl e
      rw [p1, lr_term_pl (lr_op_lt (n := 5) (by omega))] at this
      rw [this, lr_op_op])
    have ev : nd_v (iv_mat N B) κ = B (κ.1 * (2 * N) + κ.2) := by
      unfold nd_v lm_bd nd_a
      rw [eb, if_neg hno, if_neg t1, if_neg t2, p1, p2]; rfl
    rw [ev]
/-- the matrix that the reference builds -/
theorem nd_bld {N : Nat} {B : Nat → Int64} {S : lm_N} {L : Nat → Int32} (hN : N ≤ 5) (hC : lr_Cl N (lz_T (2 * N) B)) (hn : lz_nf (2 * N) (lz_T (2 * N) B)) (hS : ∀ r κ, (nd_f N (iv_mat N B))[r]? = some κ → S.2.1 r = nd_a κ ∧ S.2.2.1 r = nd_b κ ∧ S.2.2.2.1 r = nd_v (iv_mat N B) κ) : ∀ n, n ≤ (nd_f N (iv_mat N B)).length → lr_Sym (2 * N) (lz_X (2 * N) (lm_bld S L n)) ∧ (∀ i, lz_X (2 * N) (lm_bld S L n) i (lr_op i) = none) ∧ (∀ i j, lz_X (2 * N) (lm_bld S L n) i j = none ∨ lz_X (2 * N) (lm_bld S L n) i j = lz_T (2 * N) B i j) ∧ (∀ i j, i < 2 * N → j < 2 * N → i ≤ j → ((∃ q, q < n ∧ (nd_f N (iv_mat N B))[q]? = some (i, j) ∧ ¬ L q = 0) → lz_X (2 * N) (lm_bld S L n) i j = lz_T (2 * N) B i j) ∧ ((∀ q, q < n → (nd_f N (iv_mat N B))[q]? = some (i, j) → L q = 0) → lz_X (2 * N) (lm_bld S L n) i j = none)) := by
  intro n
  induction n with
  | zero =>
    intro _
    have e : ∀ i j, lz_X (2 * N) (lm_bld S L 0) i j = none := fun i j => by
      unfold lz_X
      split
      · exact lz_v_E
      · rfl
    exact ⟨fun i _ j _ => by rw [e, e], fun i => e _ _, fun i j => Or.inl (e i j), fun i j _ _ _ => ⟨fun ⟨q, hq, _⟩ => absurd hq (by omega), fun _ => e i j⟩⟩
  | succ n ih =>
    intro hn'
    obtain ⟨i1, i2, i3, i4⟩ := ih (by omega)
    have hbW := lz_nf_B hn lz_T_gd
    by_cases w : L n = 0
    · have e : lm_bld S L (n + 1) = lm_bld S L n := by
        show (if L n = 0 then _ else _) = _
        rw [if_pos w]; rfl
      rw [e]
      refine ⟨i1, i2, i3, fun i j hi hj hij => ⟨fun ⟨q, hq, e1, e2⟩ => (i4 i j hi hj hij).1 ⟨q, ?_, e1, e2⟩, fun h => (i4 i j hi hj hij).2 (fun q hq => h q (by omega))⟩⟩
      have : q ≠ n := fun e => e2 (by rw [e]; exact w)
      omega
    · have ⟨κ, hκ⟩ : ∃ κ, (nd_f N (iv_mat N B))[n]? = some κ := ⟨_, List.getElem?_eq_getElem (by omega)⟩
      obtain ⟨s1, s2, s3⟩ := hS n κ hκ
      have e : lm_bld S L (n + 1) = lm_addM (lm_bld S L n) (nd_a κ) (nd_b κ) (nd_v (iv_mat N B) κ) := by
        show (if L n = 0 then _ else lm_addM _ (S.2.1 n) (S.2.2.1 n) (S.2.2.2.1 n)) = _
        rw [if_neg w, s1, s2, s3]; rfl
      have hm : κ ∈ nd_f N (iv_mat N B) := List.mem_of_getElem? hκ
      have hk := (List.mem_filter.mp hm).1
      have hp : ¬ nd_v (iv_mat N B) κ = lr_E := by
        have := (List.mem_filter.mp hm).2
        unfold nd_p at this
        simpa using this
      obtain ⟨h1, h2, h3, h4, h5⟩ := nd_k_in (by omega) hk
      have hb : lz_B 2000000000000000 (lz_X (2 * N) (lm_bld S L n)) := fun i j => by
        rcases i3 i j with e | e <;> rw [e]
        · exact lz_b_n
        · exact hbW i j
      have ea := (nd_add hN hC hn hk i1 hb hp).1
      have ec : lr_mn (lz_X (2 * N) (lm_bld S L n) κ.1 κ.2) (lz_T (2 * N) B κ.1 κ.2) = lz_T (2 * N) B κ.1 κ.2 := by
        rcases i3 κ.1 κ.2 with e | e <;> rw [e]
        · rfl
        · exact lr_mn_of (lr_le_refl _)
      rw [e, ea, ec]
      refine ⟨lq_up_sym i1, fun i => ?_, fun i j => ?_, fun i j hi hj hij => ⟨fun ⟨q, hq, e1, e2⟩ => ?_, fun h => ?_⟩⟩
      · rw [lq_up_ne]
        · exact i2 i
        · rintro (⟨rfl, z⟩ | ⟨z1, z2⟩)
          · exact h4 z.symm
          · exact h4 (by rw [← z2, ← z1, lr_op_op] )
      · rcases lq_up_or (C := lz_X (2 * N) (lm_bld S L n)) (i := κ.1) (k := κ.2) (x := i) (y := j) (c := lz_T (2 * N) B κ.1 κ.2) with ⟨z, e⟩ | ⟨_, e⟩ <;> rw [e]
        · right
          rcases z with ⟨rfl, rfl⟩ | ⟨rfl, rfl⟩
          · rfl
          · exact hC.1 _ h1 _ h2
        · exact i3 i j
      · rcases lq_up_or (C := lz_X (2 * N) (lm_bld S L n)) (i := κ.1) (k := κ.2) (x := i) (y := j) (c := lz_T (2 * N) B κ.1 κ.2) with ⟨z, e⟩ | ⟨z, e⟩ <;> rw [e]
        · rcases z with ⟨rfl, rfl⟩ | ⟨rfl, rfl⟩
          · rfl
          · exact hC.1 _ h1 _ h2
        · refine (i4 i j hi hj hij).1 ⟨q, ?_, e1, e2⟩
          have : q ≠ n := fun ee => by
            rw [ee, hκ] at e1
            injection e1 with e1
            exact z (Or.inl ⟨by rw [e1], by rw [e1]⟩)
          omega
      · rw [lq_up_ne]
        · exact (i4 i j hi hj hij).2 (fun q hq => h q (by omega))
        · rintro (⟨rfl, rfl⟩ | ⟨z1, z2⟩)
          · exact w (h n (by omega) hκ)
          · have : i = j := by omega
            refine w (h n (by omega) ?_)
            rw [hκ]
            show some (κ.1, κ.2) = some (i, j)
            rw [← z1, ← z2, this]
theorem nd_bldA {N : Nat} {B : Nat → Int64} {S : lm_N} {L : Nat → Int32} (hN : N ≤ 5) (hC : lr_Cl N (lz_T (2 * N) B)) (hn : lz_nf (2 * N) (lz_T (2 * N) B)) (hS : ∀ r κ, (nd_f N (iv_mat N B))[r]? = some κ → S.2.1 r = nd_a κ ∧ S.2.2.1 r = nd_b κ ∧ S.2.2.2.1 r = nd_v (iv_mat N B) κ) : nd_Ar N (lz_T (2 * N) B) (nd_f N (iv_mat N B)) L (lz_O (2 * N) (some 0) (lz_X (2 * N) (lm_bld S L (nd_f N (iv_mat N B)).length))) := by
  obtain ⟨i1, i2, i3, i4⟩ := nd_bld (L := L) hN hC hn hS _ (Nat.le_refl _)
  have lt : ∀ {q κ}, (nd_f N (iv_mat N B))[q]? = some κ → q < (nd_f N (iv_mat N B)).length := fun {q κ} h => by
    have := List.getElem?_eq_some_iff.mp h
    exact this.1
  refine ⟨lz_O_gd (by omega) (fun i j q => lz_X_out q), fun i hi => lz_Oz hi, fun i j hi hj hij w => ?_⟩
  have w' : i ≠ lr_op j := fun e => w (by rw [e, lr_op_op])
  have e1 : lz_O (2 * N) (some 0) (lz_X (2 * N) (lm_bld S L (nd_f N (iv_mat N B)).length)) i j = lz_X (2 * N) (lm_bld S L (nd_f N (iv_mat N B)).length) i j := if_neg (fun e => w e.2)
  have e2 : lz_O (2 * N) (some 0) (lz_X (2 * N) (lm_bld S L (nd_f N (iv_mat N B)).length)) j i = lz_X (2 * N) (lm_bld S L (nd_f N (iv_mat N B)).length) j i := if_neg (fun e => w' e.2)
  rw [e1, e2]
  exact ⟨i1 i hi j hj, fun ⟨q, h1, h2⟩ => (i4 i j hi hj hij).1 ⟨q, lt h1, h1, h2⟩, fun h => (i4 i j hi hj hij).2 (fun q _ => h q)⟩
