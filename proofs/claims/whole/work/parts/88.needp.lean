/-! needed: rows left out one after another -/
theorem lr_is_of {N : Nat} {X Y : lr_M} (hs : lr_Sym (2 * N) X) (h0 : ∀ i, i < 2 * N → X i (lr_op i) = some 0) (hY : lr_Cl N Y) (hYX : lr_LE (2 * N) Y X) : lr_Is N X (lr_cut (lr_fw X (2 * N))) := by
  have g := fun k hk => lr_fw_gr hY.2.2.1 hYX k hk
  refine lr_close_is hs h0 (fun k hk i hi => ?_) (fun i hi => ?_)
  · rw [← hY.2.1 i hi]; exact g k hk i hi _ (lr_op_lt hi)
  · exact lr_le_trans (lp_hh hY hi) (lr_ad_le (lr_hf_le (g _ (Nat.le_refl _) i hi i hi)) (lr_hf_le (g _ (Nat.le_refl _) _ (lr_op_lt hi) _ (lr_op_lt hi))))
theorem lz_B_fw {X : lr_M} (h : lz_B 2000000000000000 X) : ∀ k, k ≤ 10 → lz_B (lz_M k) (lr_fw X k)
  | 0, _ => h
  | k + 1, hk => lz_B_step (lz_B_fw h k (by omega)) (lz_M_0 (by omega))
theorem lz_B_cut {X : lr_M} {M : Int} (h : lz_B M X) (h0 : 0 ≤ M) : lz_B (M + 2) (lr_cut X) := fun i j => by
  have hf : ∀ q x, lr_hf (X q q) = some x → -M ≤ 2 * x + 1 ∧ 2 * x ≤ M := fun q x hx => by
    cases e : X q q with
    | none => rw [e] at hx; simp [lr_hf] at hx
    | some y =>
      have := h q q y e
      rw [e] at hx
      simp [lr_hf] at hx
      omega
  unfold lr_cut
  by_cases w : i = j
  · subst w
    rw [if_pos rfl]
    intro x hx
    cases e : lr_hf (X i i) with
    | none => rw [e] at hx; simp [lr_db] at hx
    | some y =>
      have := hf i y e
      rw [e] at hx
      simp [lr_db] at hx
      omega
  · rw [if_neg w]
    refine lz_b_mn (lz_b_w (h i j) (by omega)) (fun x hx => ?_)
    cases e : lr_hf (X i i) with
    | none => rw [e] at hx; simp [lr_ad] at hx
    | some y =>
      cases e2 : lr_hf (X j j) with
      | none => rw [e, e2] at hx; simp [lr_ad] at hx
      | some z =>
        have := hf i y e
        have := hf j z e2
        rw [e, e2] at hx
        simp [lr_ad] at hx
        omega
/-- one row is left out unless it is needed -/
def nd_R (N : Nat) (A : lr_M) (i j : Nat) : lr_M := lr_cut (lr_fw (lq_up A i j none) (2 * N))
def nd_s (N : Nat) (κ : Nat × Nat) (A : lr_M) : lr_M := if A κ.1 κ.2 = none then A else if lr_mn (nd_R N A κ.1 κ.2 κ.1 κ.2) (A κ.1 κ.2) = nd_R N A κ.1 κ.2 κ.1 κ.2 then lq_up A κ.1 κ.2 none else A
def nd_I (N : Nat) (W A : lr_M) : Prop := lr_Sym (2 * N) A ∧ (∀ i, i < 2 * N → A i (lr_op i) = some 0) ∧ (∀ i j, A i j = W i j ∨ A i j = none)
theorem nd_up {N : Nat} {W A : lr_M} {i j : Nat} (h : nd_I N W A) (hi : i < 2 * N) (hn : j ≠ lr_op i) : nd_I N W (lq_up A i j none) := by
  obtain ⟨h1, h2, h3⟩ := h
  refine ⟨lq_up_sym h1, fun q hq => ?_, fun a b => ?_⟩
  · rw [lq_up_ne]
    · exact h2 q hq
    · rintro (⟨rfl, w⟩ | ⟨w1, w2⟩)
      · exact hn w.symm
      · exact hn (by rw [← w2, w1, lr_op_op])
  · rcases lq_up_or (C := A) (i := i) (k := j) (x := a) (y := b) (c := none) with ⟨_, e⟩ | ⟨_, e⟩ <;> rw [e]
    · exact Or.inr rfl
    · exact h3 a b
theorem nd_I.s {N : Nat} {W A : lr_M} {κ : Nat × Nat} (h : nd_I N W A) (hi : κ.1 < 2 * N) (hn : κ.2 ≠ lr_op κ.1) : nd_I N W (nd_s N κ A) := by
  unfold nd_s
  split
  · exact h
  · split
    · exact nd_up h hi hn
    · exact h
theorem nd_I.le {N : Nat} {W A : lr_M} (h : nd_I N W A) : lr_LE (2 * N) W A := fun i hi j hj => by
  rcases h.2.2 i j with e | e <;> rw [e]
  · exact lr_le_refl _
  · exact lr_le_none _
theorem nd_I.b {N : Nat} {W A : lr_M} (h : nd_I N W A) (hb : lz_B 2000000000000000 W) : lz_B 2000000000000000 A := fun i j => by
  rcases h.2.2 i j with e | e <;> rw [e]
  · exact hb i j
  · exact lz_b_n
theorem nd_is {N : Nat} {W A : lr_M} {i j : Nat} (hW : lr_Cl N W) (h : nd_I N W A) (hi : i < 2 * N) (hn : j ≠ lr_op i) : lr_Is N (lq_up A i j none) (nd_R N A i j) := by
  have h' := nd_up h hi hn
  exact lr_is_of h'.1 h'.2.1 hW h'.le
theorem nd_Rb {N : Nat} {W A : lr_M} {i j : Nat} (hN : N ≤ 5) (hb : lz_B 2000000000000000 W) (h : nd_I N W A) (hi : i < 2 * N) (hn : j ≠ lr_op i) : lz_B 2100000000000000000 (nd_R N A i j) := by
  have h' := (nd_up h hi hn).b hb
  have f := lz_B_fw h' (2 * N) (by omega)
  have := lz_B_cut f (lz_M_0 (by omega))
  have m := lz_M_le (k := 2 * N) (by omega)
  exact fun a b => lz_b_w (this a b) (by omega)
/-- the class does so -/
theorem nd_lea {N i j : Nat} {L L2 : Nat → Int64} {W : lr_M} (hN : N ≤ 5) (hW : lr_Cl N W) (hb : lz_B 2000000000000000 W) (hi : i < 2 * N) (hj : j < 2 * N) (hn : j ≠ lr_op i) (hI : nd_I N W (lz_T (2 * N) L)) (h : lr_lea (2 * N) i j L L2) : lz_T (2 * N) L2 = nd_s N (i, j) (lz_T (2 * N) L) := by
  obtain ⟨T, h⟩ := h
  unfold nd_s
  have hI' := nd_up hI hi hn
  rcases h with ⟨h1, h2⟩ | ⟨h1, h2⟩
  · rw [if_pos (by rw [lz_T_in hi hj, h1, lz_v_E]), h2]
  · have hne : ¬ lz_T (2 * N) L i j = none := by rw [lz_T_in hi hj]; exact fun e => h1 (lz_v_n.mp e)
    rw [if_neg hne]
    have eS : lz_T (2 * N) (lr_store L (2 * N) i j lr_E) = lq_up (lz_T (2 * N) L) i j none := by rw [lz_T_store hi hj, lz_v_E]
    have ct := lz_CT (f := lr_copy (lr_store L (2 * N) i j lr_E) T (2 * N * (2 * N))) hN (X := lq_up (lz_T (2 * N) L) i j none) (by rw [lz_T_copy, eS, lz_O_id hI'.2.1]) hI'.1 (hI'.b hb)
    have is2 := nd_is hW hI hi hn
    rcases ct with ⟨c1, c2, c3⟩ | ⟨_, c2⟩
    · have eq := lr_Is_eq (fun _ _ _ _ => rfl) c2 is2 i hi j hj
      have hle := lz_le (c := lr_clR (lr_copy (lr_store L (2 * N) i j lr_E) T (2 * N * (2 * N))) (2 * N) (i * (2 * N) + j)) (d := L (i * (2 * N) + j)) (M := 2100000000000000000) (M' := 2000000000000000) (by rw [← lz_T_in hi hj]; exact c3 i j) (by rw [← lz_T_in hi hj]; exact hI.b hb i j) (by omega) (by omega)
      rw [← lz_T_in hi hj, ← lz_T_in hi hj, eq] at hle
      have estore : lz_T (2 * N) (lr_store (lr_store L (2 * N) i j lr_E) (2 * N) i j (L (i * (2 * N) + j))) = lz_T (2 * N) L := by
        rw [lz_T_store hi hj, eS, ← lz_T_in hi hj]
        funext a b
        unfold lq_up
        by_cases w : (a = i ∧ b = j) ∨ (a = j ∧ b = i)
        · rw [if_pos w]
          rcases w with ⟨rfl, rfl⟩ | ⟨rfl, rfl⟩
          · rfl
          · exact hI.1 _ hi _ hj
        · rw [if_neg w, if_neg w]
      rcases h2 with ⟨⟨_, h3⟩, h4⟩ | ⟨h3, h4⟩
      · rw [if_neg (fun e => h3 (hle.mpr (by rw [← e]; exact lr_mn_r _ _))), h4, estore]
      · have h5 : lr_clR (lr_copy (lr_store L (2 * N) i j lr_E) T (2 * N * (2 * N))) (2 * N) (i * (2 * N) + j) ≤ L (i * (2 * N) + j) := Classical.byContradiction fun w => h3 ⟨c1, w⟩
        rw [if_pos (lr_mn_of (hle.mp h5)), h4, eS]
    · exact absurd hI'.le (c2 _ hW)
/-- runs as loops -/
theorem nd_run {α β : Type} {S : Nat → α → α → Prop} {g : Nat → β → β} {v : α → β} {P : β → Prop} : ∀ {n : Nat}, (∀ t, t < n → ∀ a b, P (v a) → S t a b → v b = g t (v a)) → (∀ t, t < n → ∀ x, P x → P (g t x)) → ∀ {a b : α}, P (v a) → lr_run S n a b → v b = lr_it g n (v a) ∧ P (v b)
  | 0, _, _, a, b, hP, h => by have h : b = a := h; subst h; exact ⟨rfl, hP⟩
  | n + 1, hS, hg, a, b, hP, h => by
    obtain ⟨c, h1, h2⟩ := h
    obtain ⟨i1, i2⟩ := nd_run (g := g) (v := v) (P := P) (n := n) (fun t ht => hS t (by omega)) (fun t ht => hg t (by omega)) hP h1
    have e := hS n (by omega) c b i2 h2
    refine ⟨?_, by rw [e]; exact hg n (by omega) _ i2⟩
    show v b = g n (lr_it g n (v a))
    rw [e, i1]
theorem lr_it_fold {α : Type} {f : Nat → α → α} {a : α} : ∀ {n : Nat}, lr_it f n a = (List.range n).foldl (fun a i => f i a) a
  | 0 => rfl
  | n + 1 => by rw [List.range_succ, List.foldl_append]; show f n (lr_it f n a) = f n _; rw [lr_it_fold]
theorem lr_it_rev {α : Type} {f : Nat → α → α} : ∀ {n : Nat} {a : α}, lr_it (fun t a => f (n - (t + 1)) a) n a = (List.range n).foldr f a
  | 0, _ => rfl
  | n + 1, a => by
    rw [List.range_succ, List.foldr_append]
    show _ = (List.range n).foldr f (f n a)
    rw [← lr_it_rev (n := n), show n + 1 = 1 + n by omega, lr_it_add]
    show lr_it (fun i => (fun t a => f (1 + n - (t + 1)) a) (1 + i)) n (f (1 + n - (0 + 1)) a) = _
    rw [show 1 + n - (0 + 1) = n by omega]
    exact lr_it_eq (fun t ht b => by show f (1 + n - (1 + t + 1)) b = _; rw [show 1 + n - (1 + t + 1) = n - (t + 1) by omega]) _
/-- the rows in the order in which they are told -/
def nd_k1 (n : Nat) : List (Nat × Nat) := (List.range n).map (fun i => (i, i))
def nd_k2 (n : Nat) : List (Nat × Nat) := (List.range n).flatMap (fun i => (List.range (n - lr_nx i)).map (fun t => (i, lr_nx i + t)))
def nd_k (n : Nat) : List (Nat × Nat) := nd_k1 n ++ nd_k2 n
theorem nd_foldr_flat {α β γ : Type} {f : β → γ → γ} {g : α → List β} : ∀ {l : List α} {c : γ}, (l.flatMap g).foldr f c = l.foldr (fun a c => (g a).foldr f c) c
  | [], _ => rfl
  | a :: l, c => by rw [List.flatMap_cons, List.foldr_append, nd_foldr_flat]; rfl
theorem nd_foldl_flat {α β γ : Type} {f : γ → β → γ} {g : α → List β} : ∀ {l : List α} {c : γ}, (l.flatMap g).foldl f c = l.foldl (fun c a => (g a).foldl f c) c
  | [], _ => rfl
  | a :: l, c => by rw [List.flatMap_cons, List.foldl_append, nd_foldl_flat]; rfl
theorem nd_k_in {n : Nat} (he : n % 2 = 0) {κ : Nat × Nat} (h : κ ∈ nd_k n) : κ.1 < n ∧ κ.2 < n ∧ κ.1 ≤ κ.2 ∧ κ.2 ≠ lr_op κ.1 ∧ (κ.1 = κ.2 ∨ lr_nx κ.1 ≤ κ.2) := by
  unfold nd_k at h
  rcases List.mem_append.mp h with h | h
  · unfold nd_k1 at h
    obtain ⟨i, hi, rfl⟩ := List.mem_map.mp h
    have := List.mem_range.mp hi
    exact ⟨this, this, Nat.le_refl _, fun e => lr_op_ne i e.symm, Or.inl rfl⟩
  · unfold nd_k2 at h
    obtain ⟨i, hi, h⟩ := List.mem_flatMap.mp h
    obtain ⟨t, ht, rfl⟩ := List.mem_map.mp h
    have := List.mem_range.mp hi
    have := List.mem_range.mp ht
    refine ⟨by omega, by show lr_nx i + t < n; omega, ?_, ?_, Or.inr (by show lr_nx i ≤ lr_nx i + t; omega)⟩
    · show i ≤ lr_nx i + t
      unfold lr_nx; omega
    · show lr_nx i + t ≠ lr_op i
      unfold lr_nx lr_op; split <;> omega
theorem nd_k_mem {n i j : Nat} (hi : i < n) (hj : j < n) (hij : i ≤ j) (ho : j ≠ lr_op i) (he : n % 2 = 0) : (i, j) ∈ nd_k n := by
  unfold nd_k
  by_cases w : i = j
  · subst w
    exact List.mem_append_left _ (List.mem_map.mpr ⟨i, List.mem_range.mpr hi, rfl⟩)
  · refine List.mem_append_right _ (List.mem_flatMap.mpr ⟨i, List.mem_range.mpr hi, List.mem_map.mpr ⟨j - lr_nx i, List.mem_range.mpr ?_, ?_⟩⟩)
    · have : lr_nx i ≤ j := by
        unfold lr_op at ho; unfold lr_nx; split at ho <;> omega
      omega
    · have : lr_nx i ≤ j := by
        unfold lr_op at ho; unfold lr_nx; split at ho <;> omega
      show (i, lr_nx i + (j - lr_nx i)) = (i, j)
      rw [show lr_nx i + (j - lr_nx i) = j by omega]
theorem nd_k_nodup {N : Nat} (hN : N ≤ 5) : (nd_k (2 * N)).Nodup := by
  have : ∀ M, M < 6 → (nd_k (2 * M)).Nodup := by decide
  exact this N (by omega)
/-- what the class leaves -/
theorem nd_class {N : Nat} {B L L1 L2 : Nat → Int64} (hN : N ≤ 5) (hC : lr_Cl N (lz_T (2 * N) B)) (hn : lz_nf (2 * N) (lz_T (2 * N) B)) (h1 : lr_lvP (2 * N) (2 * N) (lr_copy B L (2 * N * (2 * N))) L1) (h2 : lr_lvS (2 * N) (2 * N) L1 L2) : lz_T (2 * N) L2 = (nd_k (2 * N)).foldr (nd_s N) (lz_T (2 * N) B) := by
  have hb := lz_nf_B hn lz_T_gd
  have I0 : nd_I N (lz_T (2 * N) B) (lz_T (2 * N) B) := ⟨hC.1, hC.2.1, fun _ _ => Or.inl rfl⟩
  have inr : ∀ {i u}, i < 2 * N → u < 2 * N - lr_nx i → 2 * N - 1 - u < 2 * N ∧ 2 * N - 1 - u ≠ lr_op i := fun {i u} hi hu => by
    refine ⟨by omega, ?_⟩
    unfold lr_nx at hu; unfold lr_op; split <;> omega
  have p1 := nd_run (v := lz_T (2 * N)) (P := nd_I N (lz_T (2 * N) B)) (g := fun t A => lr_it (fun u A => nd_s N (2 * N - (t + 1), 2 * N - 1 - u) A) (2 * N - lr_nx (2 * N - (t + 1))) A) (n := 2 * N) (fun t ht a b hP hS => by
      exact (nd_run (v := lz_T (2 * N)) (P := nd_I N (lz_T (2 * N) B)) (g := fun u A => nd_s N (2 * N - (t + 1), 2 * N - 1 - u) A) (fun u hu a b hP hS => nd_lea hN hC hb (by omega) (inr (by omega) hu).1 (inr (by omega) hu).2 hP hS) (fun u hu x hx => hx.s (show 2 * N - (t + 1) < 2 * N by omega) (inr (by omega) hu).2) hP hS).1)
    (fun t ht x hx => lr_it_inv (fun u hu x hx => hx.s (show 2 * N - (t + 1) < 2 * N by omega) (inr (by omega) hu).2) hx) (by rw [lz_T_copy]; exact I0) h1
  obtain ⟨e1, P1⟩ := p1
  have p2 := nd_run (v := lz_T (2 * N)) (P := nd_I N (lz_T (2 * N) B)) (g := fun t A => nd_s N (2 * N - (t + 1), 2 * N - (t + 1)) A) (n := 2 * N) (fun t ht a b hP hS => nd_lea hN hC hb (by omega) (by omega) (fun e => lr_op_ne _ e.symm) hP hS) (fun t ht x hx => hx.s (show 2 * N - (t + 1) < 2 * N by omega) (fun e => lr_op_ne _ e.symm)) P1 h2
  obtain ⟨e2, _⟩ := p2
  rw [e2, e1, lz_T_copy]
  unfold nd_k
  rw [List.foldr_append]
  have s1 : ∀ A, lr_it (fun t A => nd_s N (2 * N - (t + 1), 2 * N - (t + 1)) A) (2 * N) A = (nd_k1 (2 * N)).foldr (nd_s N) A := fun A => by
    unfold nd_k1
    rw [List.foldr_map]
    exact lr_it_rev (f := fun i A => nd_s N (i, i) A)
  have s2 : ∀ A, lr_it (fun t A => lr_it (fun u A => nd_s N (2 * N - (t + 1), 2 * N - 1 - u) A) (2 * N - lr_nx (2 * N - (t + 1))) A) (2 * N) A = (nd_k2 (2 * N)).foldr (nd_s N) A := fun A => by
    unfold nd_k2
    rw [nd_foldr_flat]
    rw [← lr_it_rev]
    refine lr_it_eq (fun t ht B => ?_) A
    rw [List.foldr_map, ← lr_it_rev]
    exact lr_it_eq (fun u hu B => by rw [show 2 * N - 1 - u = lr_nx (2 * N - (t + 1)) + (2 * N - lr_nx (2 * N - (t + 1)) - (u + 1)) by omega]) B
  rw [s1, s2]
