/-! LinearRowsModel: the object and its cells, from the place b on; what its methods do -/
abbrev mObj (A : Nat → Nat) (N : Nat) (th : Int32) (nm : Nat) : Nat × va_E := (A 0, .inr (3, [.int th, .int (nI N), .ref (A 1), .ref (A 2), .ref (A 3), .ref (A 4), .ref (A 5), .ref (A 6), .int (nI nm), .ref (A 7), .ref (A 8), .ref (A 9), .ref (A 10)]))
def mAt (cJ cI cZ : ClassId) (ws : va_W) (b : Nat) (A : Nat → Nat) (N : Nat) (th : Int32) (nm : Nat) (R : Nat → Int64) (Em : Nat → Int32) (D O Md Pt : Nat → Int64) (nA nB : Nat → Int32) (nC : Nat → Int64) (Lf : Nat → Int32) : Prop :=
  ws[b]? = some (mObj A N th nm) ∧ ws[b + 1]? = some (A 1, .inl (cJ, 800, .inr (.inl R))) ∧ ws[b + 2]? = some (A 2, .inl (cZ, 8, .inl Em)) ∧ ws[b + 3]? = some (A 3, .inl (cJ, 100, .inr (.inl D))) ∧ ws[b + 4]? = some (A 4, .inl (cJ, 100, .inr (.inl O))) ∧ ws[b + 5]? = some (A 5, .inl (cJ, 100, .inr (.inl Md))) ∧ ws[b + 6]? = some (A 6, .inl (cJ, 6, .inr (.inl Pt))) ∧ ws[b + 7]? = some (A 7, .inl (cI, 60, .inl nA)) ∧ ws[b + 8]? = some (A 8, .inl (cI, 60, .inl nB)) ∧ ws[b + 9]? = some (A 9, .inl (cJ, 60, .inr (.inl nC))) ∧ ws[b + 10]? = some (A 10, .inl (cZ, 60, .inl Lf))
def mS (cJ cI cZ : ClassId) (ws : va_W) (b : Nat) (A : Nat → Nat) (N : Nat) (th : Int32) (nm : Nat) (R : Nat → Int64) (Em : Nat → Int32) (Pt : Nat → Int64) (nA nB : Nat → Int32) (nC : Nat → Int64) : Prop := ∃ D O Md Lf, mAt cJ cI cZ ws b A N th nm R Em D O Md Pt nA nB nC Lf
theorem mS.kept {cJ cI cZ : ClassId} {ws w : va_W} {b N nm x y : Nat} {A : Nat → Nat} {th : Int32} {R Pt nC : Nat → Int64} {Em nA nB : Nat → Int32} (h : mS cJ cI cZ ws b A N th nm R Em Pt nA nB nC) (hf : gF x y ws w) (ho : b + 11 ≤ x ∨ y ≤ b) : mS cJ cI cZ w b A N th nm R Em Pt nA nB nC := by
  obtain ⟨D, O, Md, Lf, h0, h1, h2, h3, h4, h5, h6, h7, h8, h9, h10⟩ := h
  exact ⟨D, O, Md, Lf, hf.at h0 (by omega), hf.at h1 (by omega), hf.at h2 (by omega), hf.at h3 (by omega), hf.at h4 (by omega), hf.at h5 (by omega), hf.at h6 (by omega), hf.at h7 (by omega), hf.at h8 (by omega), hf.at h9 (by omega), hf.at h10 (by omega)⟩
/-- the cells of d in range as a matrix -/
def lm_ag (N : Nat) (D : Nat → Int64) (X : Nat → Nat → Int64) : Prop := ∀ i k, i < 2 * N → k < 2 * N → D (10 * i + k) = X i k
theorem lm_ag.self {N : Nat} {D : Nat → Int64} : lm_ag N D (fun i k => D (10 * i + k)) := fun _ _ _ _ => rfl
theorem lm_ag.dg {N i : Nat} {D : Nat → Int64} {X : Nat → Nat → Int64} (h : lm_ag N D X) (hi : i < 2 * N) : D (11 * i) = X i i := by
  rw [show 11 * i = 10 * i + i by omega]; exact h i i hi hi
def lm_half (c : Int64) : Int64 := if c < 0 then (c - 1) / 2 else c / 2
def lm_dbl (c : Int64) : Int64 := if c = lr_E then lr_E else 2 * c
def lm_hf (c : Int64) : Int64 := if c = lr_E then lr_E else c / 2
def lm_db (i k : Nat) (c : Int64) : Int64 := if i = k then (if c = lr_E then c else 2 * c) else c
def lm_hv (i k : Nat) (c : Int64) : Int64 := if i = k then (if c = lr_E then c else c / 2) else c
def lm_x1 (x y : Int32) : Int32 := if x = 0 then y else x
theorem lm_at_pos {x : Int32} (h : lr_sm x) (h0 : 0 < x) : nI 2 * x - nI 2 = nI (lr_pl x) := by
  have h1 : 0 < x.toInt := by simpa using Int32.lt_iff_toInt_lt.mp h0
  obtain ⟨a, b⟩ := h
  have e2 : (nI 2).toInt = 2 := by decide
  have e4 : (nI 2 * x).toInt = 2 * x.toInt := by rw [lr_mulI (by rw [e2]; omega) (by rw [e2]; omega), e2]
  apply lr_i32
  rw [lr_subI (by rw [e4, e2]; omega) (by rw [e4, e2]; omega), e4, e2, nI_toInt (by unfold lr_pl; rw [if_pos h1]; omega)]
  unfold lr_pl; rw [if_pos h1]; omega
theorem lm_at_neg {x : Int32} (h : lr_sm x) (hz : ¬ x = 0) (h0 : x ≤ 0) : -2 * x - nI 1 = nI (lr_pl x) := by
  have h1 : x.toInt ≤ 0 := by simpa using Int32.le_iff_toInt_le.mp h0
  have h3 : x.toInt ≠ 0 := fun q => hz (lr_i32 (by rw [q]; decide))
  obtain ⟨a, b⟩ := h
  have e1 : (nI 1).toInt = 1 := by decide
  have e2 : (-2 : Int32).toInt = -2 := by decide
  have e4 : (-2 * x).toInt = -2 * x.toInt := by rw [lr_mulI (by rw [e2]; omega) (by rw [e2]; omega), e2]
  apply lr_i32
  rw [lr_subI (by rw [e4, e1]; omega) (by rw [e4, e1]; omega), e4, e1, nI_toInt (by unfold lr_pl; rw [if_neg (by omega)]; omega)]
  unfold lr_pl; rw [if_neg (by omega)]; omega
theorem lm_x1_tm {x y : Int32} {n : Nat} (hx : lr_tm x n) (hy : lr_tm y n) : lr_tm (lm_x1 x y) n := by
  unfold lm_x1; split <;> assumption
theorem lm_x1_nz {x y : Int32} (h : ¬ (x = 0 ∧ y = 0)) : ¬ lm_x1 x y = 0 := by
  unfold lm_x1; split
  · exact fun q => h ⟨by assumption, q⟩
  · assumption
/-- loops over cells -/
def lm_cp (D O : Nat → Int64) : Nat → Int64 := lr_it (fun k O => vp_updL O k (D k)) 100 O
def lm_none (R : Nat → Int64) (s : Nat) : Nat → Int64 := lr_it (fun k R => vp_updL R (100 * s + k) lr_E) 100 R
def lm_cpR (R : Nat → Int64) (t s : Nat) : Nat → Int64 := lr_it (fun k R => vp_updL R (100 * t + k) (R (100 * s + k))) 100 R
def lm_ld1 (R : Nat → Int64) (s k : Nat) (D : Nat → Int64) : Nat → Int64 := lr_it (fun k D => vp_updL D k (R (100 * s + k))) k D
def lm_ld2 (i : Nat) (D : Nat → Int64) : Nat → Int64 := lr_it (fun i D => vp_updL D (11 * i) (lm_dbl (D (11 * i)))) i D
/-- a shape's rows as a matrix, singles twice -/
def lm_mx (R : Nat → Int64) (s : Nat) : Nat → Nat → Int64 := fun i k => lm_db i k (R (100 * s + (10 * i + k)))
theorem lr_it_eq {α : Type} {f g : Nat → α → α} {n : Nat} (h : ∀ i, i < n → ∀ a, f i a = g i a) (a : α) : lr_it f n a = lr_it g n a := by
  induction n with
  | zero => rfl
  | succ n ih => show f n (lr_it f n a) = g n (lr_it g n a); rw [ih (fun i hi => h i (by omega)), h n (by omega)]
theorem vl_eq (F : Nat → Int64) (p : Nat) (v : Int64) : vp_updL F p v p = v := by unfold vp_updL; rw [if_pos rfl]
theorem vl_ne {F : Nat → Int64} {p q : Nat} {v : Int64} (h : q ≠ p) : vp_updL F p v q = F q := by unfold vp_updL; rw [if_neg h]
/-- a run of writes at places that differ -/
theorem lm_itv {F : Nat → Int64} {p : Nat → Nat} {g : Nat → Int64 → Int64} {n q : Nat} (hp : ∀ i j, i < n → j < n → p i = p j → i = j) : (∀ i, i < n → p i = q → lr_it (fun i F => vp_updL F (p i) (g i (F (p i)))) n F q = g i (F q)) ∧ ((∀ i, i < n → p i ≠ q) → lr_it (fun i F => vp_updL F (p i) (g i (F (p i)))) n F q = F q) := by
  induction n with
  | zero => exact ⟨fun i h => absurd h (by omega), fun _ => rfl⟩
  | succ n ih =>
    obtain ⟨ih1, ih2⟩ := ih (fun i j hi hj => hp i j (by omega) (by omega))
    constructor
    · intro i hi he
      show vp_updL (lr_it _ n F) (p n) (g n (lr_it _ n F (p n))) q = _
      by_cases hq : i = n
      · subst hq
        have h2 : lr_it (fun i F => vp_updL F (p i) (g i (F (p i)))) i F q = F q := ih2 (fun j hj h => absurd (hp j i (by omega) (by omega) (h.trans he.symm)) (by omega))
        rw [he, vl_eq, h2]
      · have hne : q ≠ p n := fun h => hq (hp i n hi (by omega) (he.trans h))
        rw [vl_ne hne]
        exact ih1 i (by omega) he
    · intro h
      show vp_updL (lr_it _ n F) (p n) (g n (lr_it _ n F (p n))) q = _
      have hne : q ≠ p n := fun z => h n (by omega) z.symm
      rw [vl_ne hne]
      exact ih2 (fun i hi => h i (by omega))
theorem lm_itp {F : Nat → Int64} {p : Nat → Nat} {g : Nat → Int64 → Int64} {n i : Nat} (hp : ∀ i j, i < n → j < n → p i = p j → i = j) (hi : i < n) : lr_it (fun i F => vp_updL F (p i) (g i (F (p i)))) n F (p i) = g i (F (p i)) := (lm_itv (F := F) (g := g) hp).1 i hi rfl
theorem lm_itn {F : Nat → Int64} {p : Nat → Nat} {g : Nat → Int64 → Int64} {n q : Nat} (hp : ∀ i j, i < n → j < n → p i = p j → i = j) (h : ∀ i, i < n → p i ≠ q) : lr_it (fun i F => vp_updL F (p i) (g i (F (p i)))) n F q = F q := (lm_itv (F := F) (g := g) hp).2 h
/-- two loops over cells 10 i + k -/
theorem lm_it2 {F : Nat → Int64} {g : Nat → Nat → Int64 → Int64} {a m i k : Nat} (hm : m ≤ 10) (hk : k < 10) : lr_it (fun i F => lr_it (fun k F => vp_updL F (10 * i + k) (g i k (F (10 * i + k)))) m F) a F (10 * i + k) = if i < a ∧ k < m then g i k (F (10 * i + k)) else F (10 * i + k) := by
  induction a with
  | zero => rw [if_neg (by omega)]; rfl
  | succ a ih =>
    show lr_it (fun k F => vp_updL F (10 * a + k) (g a k (F (10 * a + k)))) m (lr_it _ a F) (10 * i + k) = _
    have hp : ∀ x y, x < m → y < m → 10 * a + x = 10 * a + y → x = y := fun x y _ _ h => by omega
    by_cases h1 : i = a
    · subst h1
      by_cases h2 : k < m
      · rw [lm_itp (p := fun k => 10 * i + k) (g := g i) hp h2, ih, if_neg (by omega), if_pos ⟨by omega, h2⟩]
      · rw [lm_itn (p := fun k => 10 * i + k) (g := g i) hp (fun x hx h => by omega), ih, if_neg (by omega), if_neg (by omega)]
    · rw [lm_itn (p := fun k => 10 * a + k) (g := g a) hp (fun x hx h => by omega), ih]
      by_cases h2 : i < a ∧ k < m
      · rw [if_pos h2, if_pos ⟨by omega, h2.2⟩]
      · rw [if_neg h2, if_neg (by omega)]
theorem lm_ag_it2 {N : Nat} {F : Nat → Int64} {g : Nat → Nat → Int64 → Int64} {a m : Nat} {X : Nat → Nat → Int64} (hN : N ≤ 5) (hm : m ≤ 10) (ha : 2 * N ≤ a) (hm2 : 2 * N ≤ m) (h : ∀ i k, i < 2 * N → k < 2 * N → g i k (F (10 * i + k)) = X i k) : lm_ag N (lr_it (fun i F => lr_it (fun k F => vp_updL F (10 * i + k) (g i k (F (10 * i + k)))) m F) a F) X := fun i k hi hk => by
  rw [lm_it2 hm (by omega), if_pos ⟨by omega, by omega⟩]; exact h i k hi hk
theorem lm_ag_it1 {N : Nat} {F : Nat → Int64} {g : Nat → Int64 → Int64} {X : Nat → Nat → Int64} (hN : N ≤ 5) (h : ∀ i k, i < 2 * N → k < 2 * N → g (10 * i + k) (F (10 * i + k)) = X i k) : lm_ag N (lr_it (fun k F => vp_updL F k (g k (F k))) 100 F) X := fun i k hi hk => by
  rw [lm_itp (p := fun k => k) (g := g) (fun _ _ _ _ h => h) (by omega)]; exact h i k hi hk
theorem lm_ag_cp {N : Nat} {D O : Nat → Int64} {X : Nat → Nat → Int64} (hN : N ≤ 5) (h : lm_ag N D X) : lm_ag N (lm_cp D O) X := lm_ag_it1 (g := fun k _ => D k) hN h
theorem lm_ag_ld {N s : Nat} {D R : Nat → Int64} (hN : N ≤ 5) : lm_ag N (lm_ld2 10 (lm_ld1 R s 100 D)) (lm_mx R s) := fun i k hi hk => by
  have hp : ∀ x y, x < 10 → y < 10 → 11 * x = 11 * y → x = y := fun x y _ _ h => by omega
  have e1 : ∀ q, q < 100 → lm_ld1 R s 100 D q = R (100 * s + q) := fun q hq => lm_itp (p := fun k => k) (g := fun k _ => R (100 * s + k)) (fun _ _ _ _ h => h) hq
  unfold lm_ld2 lm_mx lm_db
  by_cases h : i = k
  · subst h
    rw [if_pos rfl, show 10 * i + i = 11 * i by omega, lm_itp (p := fun i => 11 * i) (g := fun _ c => lm_dbl c) hp (by omega), e1 _ (by omega)]
    unfold lm_dbl
    split
    · rename_i h; exact h.symm
    · rfl
  · rw [if_neg h, lm_itn (p := fun i => 11 * i) (g := fun _ c => lm_dbl c) hp (fun x hx q => by omega), e1 _ (by omega)]
/-- the point's number at a place -/
def lm_val (Pt : Nat → Int64) (i : Nat) : Int64 := if i % 2 = 0 then Pt (i / 2 + 1) else -Pt (i / 2 + 1)
