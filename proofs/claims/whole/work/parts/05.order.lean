/-! BOUNDS: none is ENDLESS. A matrix X i j: what the terms at the places i and j together do not pass. The closed matrix below a given one is unique. -/
def lr_le (a b : Option Int) : Prop := match a, b with
  | _, none => True
  | none, some _ => False
  | some x, some y => x ≤ y
def lr_ad (a b : Option Int) : Option Int := match a, b with
  | some x, some y => some (x + y)
  | _, _ => none
def lr_mn (a b : Option Int) : Option Int := match a, b with
  | none, b => b
  | some x, none => some x
  | some x, some y => some (if y < x then y else x)
/-- half, cut downwards -/
def lr_hf (a : Option Int) : Option Int := match a with
  | none => none
  | some x => some (x / 2)
def lr_db (a : Option Int) : Option Int := match a with
  | none => none
  | some x => some (2 * x)
theorem lr_le_refl (a : Option Int) : lr_le a a := by
  cases a <;> simp [lr_le]
theorem lr_le_none (a : Option Int) : lr_le a none := by
  cases a <;> simp [lr_le]
theorem lr_le_trans {a b c : Option Int} (h : lr_le a b) (k : lr_le b c) : lr_le a c := by
  cases a <;> cases b <;> cases c <;> simp_all [lr_le] <;> omega
theorem lr_le_anti {a b : Option Int} (h : lr_le a b) (k : lr_le b a) : a = b := by
  cases a <;> cases b <;> simp_all [lr_le]; omega
theorem lr_ad_le {a b c d : Option Int} (h : lr_le a c) (k : lr_le b d) : lr_le (lr_ad a b) (lr_ad c d) := by
  cases a <;> cases b <;> cases c <;> cases d <;> simp_all [lr_le, lr_ad] <;> omega
theorem lr_ad_comm (a b : Option Int) : lr_ad a b = lr_ad b a := by
  cases a <;> cases b <;> simp [lr_ad]; omega
theorem lr_ad_assoc (a b c : Option Int) : lr_ad (lr_ad a b) c = lr_ad a (lr_ad b c) := by
  cases a <;> cases b <;> cases c <;> simp [lr_ad]; omega
theorem lr_mn_l (a b : Option Int) : lr_le (lr_mn a b) a := by
  cases a <;> cases b <;> simp [lr_le, lr_mn]; split <;> omega
theorem lr_mn_r (a b : Option Int) : lr_le (lr_mn a b) b := by
  cases a <;> cases b <;> simp [lr_le, lr_mn]; split <;> omega
theorem lr_mn_g {a b c : Option Int} (h : lr_le c a) (k : lr_le c b) : lr_le c (lr_mn a b) := by
  cases a <;> cases b <;> cases c <;> simp_all [lr_le, lr_mn]; split <;> omega
theorem lr_mn_or (a b : Option Int) : lr_mn a b = a ∨ lr_mn a b = b := by
  cases a with
  | none => right; cases b <;> rfl
  | some x =>
    cases b with
    | none => left; rfl
    | some y =>
      unfold lr_mn
      by_cases h : y < x
      · right; simp [h]
      · left; simp [h]
theorem lr_mn_comm (a b : Option Int) : lr_mn a b = lr_mn b a := by
  cases a <;> cases b <;> simp [lr_mn]; split <;> split <;> omega
/-- a sum with something in its middle that is not negative -/
theorem lr_q4 {x y z w : Option Int} (h : lr_le (some 0) (lr_ad y z)) : lr_le (lr_ad x w) (lr_ad (lr_ad x y) (lr_ad z w)) := by
  cases x <;> cases y <;> cases z <;> cases w <;> simp_all [lr_le, lr_ad] <;> omega
theorem lr_q2 {t x y z : Option Int} (h : lr_le t (lr_ad y z)) : lr_le (lr_ad x t) (lr_ad (lr_ad x y) z) := by
  cases x <;> cases y <;> cases z <;> cases t <;> simp_all [lr_le, lr_ad] <;> omega
theorem lr_q3 {t x y w : Option Int} (h : lr_le t (lr_ad x y)) : lr_le (lr_ad t w) (lr_ad x (lr_ad y w)) := by
  cases x <;> cases y <;> cases w <;> cases t <;> simp_all [lr_le, lr_ad] <;> omega
theorem lr_qr {a z : Option Int} (h : lr_le (some 0) z) : lr_le a (lr_ad a z) := by
  cases a <;> cases z <;> simp_all [lr_le, lr_ad]; omega
theorem lr_ql {a z : Option Int} (h : lr_le (some 0) z) : lr_le a (lr_ad z a) := by
  rw [lr_ad_comm]; exact lr_qr h
/-- the opposite place -/
def lr_op (i : Nat) : Nat := if i % 2 = 0 then i + 1 else i - 1
theorem lr_op_op (i : Nat) : lr_op (lr_op i) = i := by
  unfold lr_op; split <;> split <;> omega
theorem lr_op_ne (i : Nat) : lr_op i ≠ i := by
  unfold lr_op; split <;> omega
theorem lr_op_lt {i n : Nat} (h : i < 2 * n) : lr_op i < 2 * n := by
  unfold lr_op; split <;> omega
abbrev lr_M : Type := Nat → Nat → Option Int
/-- chains through each place -/
def lr_Tri (N K : Nat) (D : lr_M) : Prop := ∀ p, p < K → ∀ i, i < N → ∀ j, j < N → lr_le (D i j) (lr_ad (D i p) (D (lr_op p) j))
def lr_LE (N : Nat) (X Y : lr_M) : Prop := ∀ i, i < N → ∀ j, j < N → lr_le (X i j) (Y i j)
def lr_Sym (N : Nat) (X : lr_M) : Prop := ∀ i, i < N → ∀ j, j < N → X i j = X j i
def lr_step (k : Nat) (D : lr_M) : lr_M := fun i j => lr_mn (D i j) (lr_ad (D i k) (D (lr_op k) j))
def lr_fw (D : lr_M) : Nat → lr_M
  | 0 => D
  | k + 1 => lr_step k (lr_fw D k)
theorem lr_step_tri {n k : Nat} {D : lr_M} (hk : k < 2 * n) (h : lr_Tri (2 * n) k D) (h0 : lr_le (some 0) (D (lr_op k) k)) : lr_Tri (2 * n) (k + 1) (lr_step k D) := by
  intro p hp i hi j hj
  have hok := lr_op_lt hk
  rcases Nat.lt_or_ge p k with hpk | hpk
  · have hop := lr_op_lt (Nat.lt_trans hpk hk)
    have hp2 : p < 2 * n := Nat.lt_trans hpk hk
    have e1 : lr_le (lr_step k D i j) (D i j) := lr_mn_l _ _
    have e2 : lr_le (lr_step k D i j) (lr_ad (D i k) (D (lr_op k) j)) := lr_mn_r _ _
    rcases lr_mn_or (D i p) (lr_ad (D i k) (D (lr_op k) p)) with a | a <;> rcases lr_mn_or (D (lr_op p) j) (lr_ad (D (lr_op p) k) (D (lr_op k) j)) with b | b
    · show lr_le _ (lr_ad (lr_mn _ _) (lr_mn _ _))
      rw [a, b]
      exact lr_le_trans e1 (h p hpk i hi j hj)
    · show lr_le _ (lr_ad (lr_mn _ _) (lr_mn _ _))
      rw [a, b]
      exact lr_le_trans e2 (lr_q3 (h p hpk i hi k hk))
    · show lr_le _ (lr_ad (lr_mn _ _) (lr_mn _ _))
      rw [a, b]
      exact lr_le_trans e2 (lr_q2 (h p hpk _ hok j hj))
    · show lr_le _ (lr_ad (lr_mn _ _) (lr_mn _ _))
      rw [a, b]
      exact lr_le_trans e2 (lr_q4 (lr_le_trans h0 (h p hpk _ hok k hk)))
  · have : p = k := by omega
    subst this
    have e2 : lr_le (lr_step p D i j) (lr_ad (D i p) (D (lr_op p) j)) := lr_mn_r _ _
    refine lr_le_trans e2 (lr_ad_le ?_ ?_)
    · exact lr_mn_g (lr_le_refl _) (lr_qr h0)
    · exact lr_mn_g (lr_le_refl _) (lr_ql h0)
theorem lr_fw_tri {n : Nat} {D : lr_M} : ∀ k, k ≤ 2 * n → (∀ q, q < k → lr_le (some 0) (lr_fw D q (lr_op q) q)) → lr_Tri (2 * n) k (lr_fw D k)
  | 0, _, _ => fun p hp => absurd hp (Nat.not_lt_zero p)
  | k + 1, hk, h => lr_step_tri hk (lr_fw_tri k (by omega) (fun q hq => h q (by omega))) (h k (by omega))
theorem lr_fw_le {n : Nat} {D : lr_M} : ∀ k, lr_LE (2 * n) (lr_fw D k) D
  | 0 => fun i _ j _ => lr_le_refl _
  | k + 1 => fun i hi j hj => lr_le_trans (lr_mn_l _ _) (lr_fw_le k i hi j hj)
/-- every matrix with all chains that lies below D lies below each state of the way -/
theorem lr_fw_gr {n : Nat} {D Y : lr_M} (hY : lr_Tri (2 * n) (2 * n) Y) (h : lr_LE (2 * n) Y D) : ∀ k, k ≤ 2 * n → lr_LE (2 * n) Y (lr_fw D k)
  | 0, _ => h
  | k + 1, hk => fun i hi j hj => by
    have ih := lr_fw_gr hY h k (by omega)
    have hk' : k < 2 * n := by omega
    exact lr_mn_g (ih i hi j hj) (lr_le_trans (hY k hk' i hi j hj) (lr_ad_le (ih i hi k hk') (ih _ (lr_op_lt hk') j hj)))
theorem lr_fw_sym {n : Nat} {D : lr_M} (hs : lr_Sym (2 * n) D) (ht : lr_Tri (2 * n) (2 * n) (lr_fw D (2 * n))) : lr_Sym (2 * n) (lr_fw D (2 * n)) := by
  have h1 : lr_Tri (2 * n) (2 * n) (fun i j => lr_fw D (2 * n) j i) := by
    intro p hp i hi j hj
    have := ht (lr_op p) (lr_op_lt hp) j hj i hi
    rw [lr_op_op] at this
    show lr_le (lr_fw D (2 * n) j i) (lr_ad (lr_fw D (2 * n) p i) (lr_fw D (2 * n) j (lr_op p)))
    rw [lr_ad_comm]
    exact this
  have h2 : lr_LE (2 * n) (fun i j => lr_fw D (2 * n) j i) D := by
    intro i hi j hj
    rw [hs i hi j hj]
    exact lr_fw_le (2 * n) j hj i hi
  have h3 := lr_fw_gr h1 h2 (2 * n) (Nat.le_refl _)
  intro i hi j hj
  exact lr_le_anti (h3 j hj i hi) (h3 i hi j hj)
/-- closed: the same in both orders, opposite terms are 0 together, chains, twice a term is even, halves are added -/
def lr_Cl (n : Nat) (X : lr_M) : Prop := lr_Sym (2 * n) X ∧ (∀ i, i < 2 * n → X i (lr_op i) = some 0) ∧ lr_Tri (2 * n) (2 * n) X ∧ (∀ i, i < 2 * n → ∀ c, X i i = some c → c % 2 = 0) ∧ (∀ i, i < 2 * n → ∀ j, j < 2 * n → lr_le (lr_db (X i j)) (lr_ad (X i i) (X j j)))
/-- what closing gives: the greatest closed matrix below X -/
def lr_Is (n : Nat) (X R : lr_M) : Prop := lr_Cl n R ∧ lr_LE (2 * n) R X ∧ ∀ Y, lr_Cl n Y → lr_LE (2 * n) Y X → lr_LE (2 * n) Y R
def lr_No (n : Nat) (X : lr_M) : Prop := ∀ Y, lr_Cl n Y → ¬ lr_LE (2 * n) Y X
theorem lr_Is_eq {n : Nat} {X X' R R' : lr_M} (hX : ∀ i, i < 2 * n → ∀ j, j < 2 * n → X i j = X' i j) (h : lr_Is n X R) (h' : lr_Is n X' R') : ∀ i, i < 2 * n → ∀ j, j < 2 * n → R i j = R' i j := by
  intro i hi j hj
  have a : lr_LE (2 * n) R X' := fun i hi j hj => by rw [← hX i hi j hj]; exact h.2.1 i hi j hj
  have b : lr_LE (2 * n) R' X := fun i hi j hj => by rw [hX i hi j hj]; exact h'.2.1 i hi j hj
  exact lr_le_anti (h'.2.2 R h.1 a i hi j hj) (h.2.2 R' h'.1 b i hi j hj)
theorem lr_Is_No {n : Nat} {X X' R : lr_M} (hX : ∀ i, i < 2 * n → ∀ j, j < 2 * n → X i j = X' i j) (h : lr_Is n X R) : ¬ lr_No n X' := fun k =>
  k R h.1 (fun i hi j hj => by rw [← hX i hi j hj]; exact h.2.1 i hi j hj)
/-- cutting twice a term to an even number, and adding halves -/
def lr_cut (D : lr_M) : lr_M := fun i j => if i = j then lr_db (lr_hf (D i i)) else lr_mn (D i j) (lr_ad (lr_hf (D i i)) (lr_hf (D j j)))
theorem lr_hf_le {a b : Option Int} (h : lr_le a b) : lr_le (lr_hf a) (lr_hf b) := by
  cases a <;> cases b <;> simp_all [lr_le, lr_hf]; omega
theorem lr_dh_le (a : Option Int) : lr_le (lr_db (lr_hf a)) a := by
  cases a <;> simp [lr_le, lr_hf, lr_db]; omega
theorem lr_hd {a : Option Int} : lr_hf (lr_db a) = a := by
  cases a <;> simp [lr_hf, lr_db]
theorem lr_db_le {a b : Option Int} (h : lr_le a b) : lr_le (lr_db a) (lr_db b) := by
  cases a <;> cases b <;> simp_all [lr_le, lr_db]
theorem lr_db_ad (a b : Option Int) : lr_db (lr_ad a b) = lr_ad (lr_db a) (lr_db b) := by
  cases a <;> cases b <;> simp [lr_ad, lr_db]; omega
theorem lr_db_2 (a : Option Int) : lr_db a = lr_ad a a := by
  cases a <;> simp [lr_ad, lr_db]; omega
theorem lr_ev {a b : Option Int} (h : lr_le a b) (he : ∀ c, a = some c → c % 2 = 0) : lr_le a (lr_db (lr_hf b)) := by
  cases a <;> cases b <;> simp_all [lr_le, lr_hf, lr_db]; omega
/-- a term's half through another place -/
theorem lr_hf_tri {n : Nat} {D : lr_M} (hs : lr_Sym (2 * n) D) (ht : lr_Tri (2 * n) (2 * n) D) {j k : Nat} (hj : j < 2 * n) (hk : k < 2 * n) : lr_le (lr_hf (D j j)) (lr_ad (lr_hf (D k k)) (D (lr_op k) j)) := by
  have a := ht (lr_op k) (lr_op_lt hk) j hj j hj
  rw [lr_op_op, hs j hj _ (lr_op_lt hk)] at a
  have b := ht k hk k hk j hj
  generalize D j j = x at *
  generalize D (lr_op k) j = y at *
  generalize D k j = z at *
  generalize D k k = w at *
  cases x <;> cases y <;> cases z <;> cases w <;> simp_all [lr_le, lr_hf, lr_ad]; omega
theorem lr_cut_le {n : Nat} {D : lr_M} : lr_LE (2 * n) (lr_cut D) D := by
  intro i hi j hj
  unfold lr_cut
  split
  · rename_i h; subst h; exact lr_dh_le _
  · exact lr_mn_l _ _
theorem lr_cut_half (D : lr_M) (i j : Nat) : lr_le (lr_cut D i j) (lr_ad (lr_hf (D i i)) (lr_hf (D j j))) := by
  unfold lr_cut
  split
  · rename_i h; subst h; rw [lr_db_2]; exact lr_le_refl _
  · exact lr_mn_r _ _
theorem lr_cut_or (D : lr_M) (i j : Nat) : lr_cut D i j = D i j ∨ lr_cut D i j = lr_ad (lr_hf (D i i)) (lr_hf (D j j)) := by
  unfold lr_cut
  split
  · rename_i h; subst h; right; rw [lr_db_2]
  · exact lr_mn_or _ _
theorem lr_cut_cl {n : Nat} {D : lr_M} (hs : lr_Sym (2 * n) D) (ht : lr_Tri (2 * n) (2 * n) D) (h0 : ∀ i, i < 2 * n → D i (lr_op i) = some 0) (hh : ∀ i, i < 2 * n → lr_le (some 0) (lr_ad (lr_hf (D i i)) (lr_hf (D (lr_op i) (lr_op i))))) : lr_Cl n (lr_cut D) := by
  refine ⟨?_, ?_, ?_, ?_, ?_⟩
  · intro i hi j hj
    unfold lr_cut
    by_cases h : i = j
    · subst h; rfl
    · rw [if_neg h, if_neg (fun q => h q.symm), hs i hi j hj, lr_ad_comm]
  · intro i hi
    unfold lr_cut
    rw [if_neg (fun q => lr_op_ne i q.symm), h0 i hi]
    have := hh i hi
    generalize lr_ad (lr_hf (D i i)) (lr_hf (D (lr_op i) (lr_op i))) = x at *
    cases x <;> simp_all [lr_le, lr_mn]; omega
  · intro p hp i hi j hj
    have hop := lr_op_lt hp
    rcases lr_cut_or D i p with a | a <;> rcases lr_cut_or D (lr_op p) j with b | b <;> rw [a, b]
    · exact lr_le_trans (lr_cut_le (n := n) i hi j hj) (ht p hp i hi j hj)
    · refine lr_le_trans (lr_cut_half D i j) ?_
      have h2 := lr_hf_tri hs ht hi hop
      rw [lr_op_op, hs p hp i hi] at h2
      generalize lr_hf (D i i) = x at *
      generalize lr_hf (D j j) = y at *
      generalize lr_hf (D (lr_op p) (lr_op p)) = z at *
      generalize D i p = w at *
      cases x <;> cases y <;> cases z <;> cases w <;> simp_all [lr_le, lr_ad]; omega
    · refine lr_le_trans (lr_cut_half D i j) ?_
      have h2 := lr_hf_tri hs ht hj hp
      generalize lr_hf (D i i) = x at *
      generalize lr_hf (D j j) = y at *
      generalize lr_hf (D p p) = z at *
      generalize D (lr_op p) j = w at *
      cases x <;> cases y <;> cases z <;> cases w <;> simp_all [lr_le, lr_ad]; omega
    · refine lr_le_trans (lr_cut_half D i j) ?_
      exact lr_q4 (hh p hp)
  · intro i hi c hc
    unfold lr_cut at hc
    rw [if_pos rfl] at hc
    generalize D i i = x at *
    cases x <;> simp_all [lr_hf, lr_db]; omega
  · intro i hi j hj
    have := lr_db_le (lr_cut_half D i j)
    rw [lr_db_ad] at this
    have e : ∀ q, lr_cut D q q = lr_db (lr_hf (D q q)) := fun q => by unfold lr_cut; rw [if_pos rfl]
    rw [e i, e j]
    exact this
/-- below X: below its chains, below their cut -/
theorem lr_cut_gr {n : Nat} {D Y : lr_M} (hY : lr_Cl n Y) (h : lr_LE (2 * n) Y D) : lr_LE (2 * n) Y (lr_cut D) := by
  intro i hi j hj
  obtain ⟨-, -, -, he, hst⟩ := hY
  unfold lr_cut
  split
  · rename_i q; subst q; exact lr_ev (h i hi i hi) (he i hi)
  · refine lr_mn_g (h i hi j hj) ?_
    have a := lr_hf_le (h i hi i hi)
    have b := lr_hf_le (h j hj j hj)
    have c := hst i hi j hj
    have ei := he i hi
    have ej := he j hj
    refine lr_le_trans ?_ (lr_ad_le a b)
    generalize Y i j = x at *
    generalize Y i i = y at *
    generalize Y j j = z at *
    cases x <;> cases y <;> cases z <;> simp_all [lr_le, lr_hf, lr_ad, lr_db]; omega
/-- CLOSING: chains, then the cut -/
theorem lr_close_is {n : Nat} {X : lr_M} (hs : lr_Sym (2 * n) X) (h0 : ∀ i, i < 2 * n → X i (lr_op i) = some 0) (hc : ∀ k, k ≤ 2 * n → ∀ i, i < 2 * n → lr_le (some 0) (lr_fw X k i (lr_op i)))
    (hh : ∀ i, i < 2 * n → lr_le (some 0) (lr_ad (lr_hf (lr_fw X (2 * n) i i)) (lr_hf (lr_fw X (2 * n) (lr_op i) (lr_op i))))) : lr_Is n X (lr_cut (lr_fw X (2 * n))) := by
  have ht := lr_fw_tri (n := n) (D := X) (2 * n) (Nat.le_refl _) (fun q hq => by
    have := hc q (by omega) (lr_op q) (lr_op_lt hq)
    rw [lr_op_op] at this
    exact this)
  have hsym := lr_fw_sym hs ht
  have hz : ∀ i, i < 2 * n → lr_fw X (2 * n) i (lr_op i) = some 0 := fun i hi => by
    refine lr_le_anti ?_ (hc _ (Nat.le_refl _) i hi)
    rw [← h0 i hi]
    exact lr_fw_le (2 * n) i hi _ (lr_op_lt hi)
  refine ⟨lr_cut_cl hsym ht hz hh, ?_, ?_⟩
  · intro i hi j hj
    exact lr_le_trans (lr_cut_le (n := n) i hi j hj) (lr_fw_le (2 * n) i hi j hj)
  · intro Y hY hYX
    exact lr_cut_gr hY (lr_fw_gr hY.2.2.1 hYX (2 * n) (Nat.le_refl _))
theorem lr_close_no1 {n k i : Nat} {X : lr_M} (hk : k ≤ 2 * n) (hi : i < 2 * n) (h : ¬ lr_le (some 0) (lr_fw X k i (lr_op i))) : lr_No n X := by
  intro Y hY hYX
  have := lr_fw_gr hY.2.2.1 hYX k hk i hi (lr_op i) (lr_op_lt hi)
  rw [hY.2.1 i hi] at this
  exact h this
theorem lr_close_no2 {n i : Nat} {X : lr_M} (hi : i < 2 * n) (h : ¬ lr_le (some 0) (lr_ad (lr_hf (lr_fw X (2 * n) i i)) (lr_hf (lr_fw X (2 * n) (lr_op i) (lr_op i))))) : lr_No n X := by
  intro Y hY hYX
  apply h
  have g := lr_fw_gr hY.2.2.1 hYX (2 * n) (Nat.le_refl _)
  have ho := lr_op_lt hi
  have a := lr_hf_le (g i hi i hi)
  have b := lr_hf_le (g _ ho _ ho)
  refine lr_le_trans ?_ (lr_ad_le a b)
  have c := hY.2.2.2.2 i hi _ ho
  rw [hY.2.1 i hi] at c
  have ei := hY.2.2.2.1 i hi
  have eo := hY.2.2.2.1 _ ho
  generalize Y i i = y at *
  generalize Y (lr_op i) (lr_op i) = z at *
  cases y <;> cases z <;> simp_all [lr_le, lr_hf, lr_ad, lr_db]; omega
