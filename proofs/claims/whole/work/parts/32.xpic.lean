/-! LinearRows: the object and all its cells, from the place b on -/
def xsh (A : Nat → Nat) (k : Nat) : Nat → Nat := fun r => A (2 + 5 * k + r)
def xmd (A : Nat → Nat) : Nat → Nat := fun r => A (42 + r)
def xFam (cJ : ClassId) (ws : va_W) (b : Nat) (A : Nat → Nat) (n : Nat) (K B : Nat → Nat → Int64) (E : Nat → Int32) : Prop := ∀ k, k < 8 → shAt cJ ws (b + 2 + 5 * k) (xsh A k) n (K k) (B k) (E k) ∧ (E k = 0 ∨ E k = 1)
theorem xFam.kept {cJ : ClassId} {ws w : va_W} {b n x y : Nat} {A : Nat → Nat} {K B : Nat → Nat → Int64} {E : Nat → Int32} (h : xFam cJ ws b A n K B E) (hf : gF x y ws w) (ho : y ≤ b + 2 ∨ b + 42 ≤ x) : xFam cJ w b A n K B E := fun k hk => ⟨(h k hk).1.kept hf (by omega), (h k hk).2⟩
theorem xFam.upd {cJ : ClassId} {ws w : va_W} {b n k0 : Nat} {A : Nat → Nat} {K B : Nat → Nat → Int64} {E : Nat → Int32} {K1 B1 : Nat → Int64} {E1 : Int32} (h : xFam cJ ws b A n K B E) (hf : gF (b + 2 + 5 * k0) (b + 2 + 5 * k0 + 5) ws w) (h0 : shAt cJ w (b + 2 + 5 * k0) (xsh A k0) n K1 B1 E1) (h1 : E1 = 0 ∨ E1 = 1) : xFam cJ w b A n (va_up K k0 K1) (va_up B k0 B1) (va_up E k0 E1) := fun k hk => by
  by_cases hq : k = k0
  · subst hq
    rw [va_up_self, va_up_self, va_up_self]
    exact ⟨h0, h1⟩
  · rw [va_up_ne _ _ hq, va_up_ne _ _ hq, va_up_ne _ _ hq]
    exact ⟨(h k hk).1.kept hf (by omega), (h k hk).2⟩
abbrev xObj (A : Nat → Nat) (N : Nat) (ct : Int32) : Nat × va_E := (A 0, .inr (2, [.int (nI N), .int (nI (2 * N)), .ref (A 1), .ref (xmd A 0), .ref (A 47), .ref (A 49), .ref (A 51), .ref (A 52), .int ct]))
def xAt (cJ cS : ClassId) (ws : va_W) (b : Nat) (A : Nat → Nat) (N : Nat) (sf : Nat → Option Nat) (K B : Nat → Nat → Int64) (E : Nat → Int32) (Km Bm : Nat → Int64) (Em : Int32) (Lf Tr nu ne : Nat → Int64) (ct : Int32) : Prop :=
  ws[b]? = some (xObj A N ct) ∧ ws[b + 1]? = some (A 1, .inl (cS, 8, .inr (.inr (.inr (.inr sf))))) ∧ (∀ k, k < 8 → sf k = some (xsh A k 0)) ∧ xFam cJ ws b A (2 * N) K B E ∧ shAt cJ ws (b + 42) (xmd A) (2 * N) Km Bm Em ∧ tbAt cJ ws (b + 47) (A 47) (A 48) (2 * N) Lf ∧ tbAt cJ ws (b + 49) (A 49) (A 50) (2 * N) Tr ∧ ws[b + 51]? = some (A 51, .inl (cJ, N, .inr (.inl nu))) ∧ ws[b + 52]? = some (A 52, .inl (cJ, 6 * (N * N), .inr (.inl ne)))
def okS (x : Int32) : Prop := ¬ x < 0 ∧ x < nI 8
def okT (N : Nat) (x : Int32) : Prop := ¬ x < -nI N ∧ x ≤ nI N
def okN (N : Nat) (x : Int32) : Prop := ¬ x < nI 1 ∧ x ≤ nI N
def okG (c : Int64) : Prop := ¬ c < -1000000000 ∧ c ≤ 1000000000
theorem okS.k {x : Int32} (h : okS x) : ∃ k, k < 8 ∧ x = nI k := by
  obtain ⟨j, hj, rfl⟩ := nI_of h.1
  exact ⟨j, (nI_ltI hj (by decide)).mp h.2, rfl⟩
theorem okN.k {x : Int32} {N : Nat} (h : okN N x) (hN : N ≤ 5) : ∃ k, 1 ≤ k ∧ k ≤ N ∧ x = nI k := by
  have h0 : ¬ x < 0 := fun q => h.1 (by
    have h1 := Int32.lt_iff_toInt_lt.mp q
    refine Int32.lt_iff_toInt_lt.mpr ?_
    have e1 : (nI 1).toInt = 1 := by decide
    have e0 : (0 : Int32).toInt = 0 := by decide
    omega)
  obtain ⟨j, hj, rfl⟩ := nI_of h0
  have h2 := (nI_leI hj (by omega)).mp h.2
  have h3 : ¬ j < 1 := fun q => h.1 ((nI_ltI hj (by decide)).mpr q)
  exact ⟨j, by omega, h2, rfl⟩
theorem okT.tm {x : Int32} {N : Nat} (h : okT N x) (hN : N ≤ 5) : lr_tm x (2 * N) := by
  have a := Int32.le_iff_toInt_le.mp h.2
  have b := Int32.le_iff_toInt_le.mp (Int32.not_lt.mp h.1)
  rw [nI_toInt (by omega)] at a
  rw [lr_negI (by rw [nI_toInt (by omega)]; omega), nI_toInt (by omega)] at b
  refine ⟨⟨by omega, by omega⟩, fun hz => ?_⟩
  have hi : x.toInt ≠ 0 := fun q => hz (lr_i32 (by rw [q]; decide))
  unfold lr_pl
  split <;> omega
section XA
variable {p : Program} {l : Launch} {e : Env} {R : Room} {s : State} {m : MethodId} {args : Array Value} {below : List Frame} {meth : Method} {c : Code} {H : Heap} {locs : List Loc} {cells slots : Nat} {Q : State → Prop}
variable {D : va_G} {cl : List vw_C} {tys : List (ClassId × FieldType)} {ws : va_W} {a : Nat} {pc : Nat} {ls : Array Slot} {rest : List Value} {cc : ByteArray}
theorem g_aald (hx : p.tables.exec = Jvm.exec) (hb : c.code = cc) (hK : va_K D cl tys s) (hP : va_P D cl ws H) {q0 t0 : Nat} {cA : ClassId} {C : String} {n v : Nat} {f : Nat → Option Nat} (ha : ws[q0]? = some (a, .inl (cA, n, .inr (.inr (.inr (.inr f)))))) (ht : tys[t0]? = some (cA, .object C)) {k : Nat} (hk : k < n) (hn : n < 2 ^ 31) (hv : f k = some v) (hdg : decode cc pc = .ok (.aaload, 1))
    (kk : W p l e R s m args below meth c H locs cells slots Q (F0 m (pc + 1) ls (.ref v :: rest))) : W p l e R s m args below meth c H locs cells slots Q (F0 m pc ls (.int (nI k) :: .ref a :: rest)) := by
  refine va_aldq hx hb hK hP q0 t0 ha ht (vp_in_nI hk hn) hdg ?_
  rw [nI_clamp (by omega), hv]
  exact kk
end XA
/-- which shapes a call leaves as they are -/
def xOth (k : Nat) (K B : Nat → Nat → Int64) (E : Nat → Int32) (K' B' : Nat → Nat → Int64) (E' : Nat → Int32) : Prop := ∀ q, q < 8 → q ≠ k → K' q = K q ∧ B' q = B q ∧ E' q = E q
theorem xOth.up {k : Nat} {K B : Nat → Nat → Int64} {E : Nat → Int32} {K1 B1 : Nat → Int64} {E1 : Int32} : xOth k K B E (va_up K k K1) (va_up B k B1) (va_up E k E1) := fun q _ h => ⟨va_up_ne _ _ h, va_up_ne _ _ h, va_up_ne _ _ h⟩
theorem lr_addO_E {K B K1 B1 : Nat → Int64} {n : Nat} {E E1 x y : Int32} {c : Int64} (h : lr_addO K B n E x y c K1 B1 E1) (hE : E = 0 ∨ E = 1) : E1 = 0 ∨ E1 = 1 := by
  rcases h with ⟨_, _, _, rfl⟩ | ⟨_, _, _, _, _, rfl⟩ | ⟨_, _, _, _, _, rfl⟩ | ⟨_, _, h⟩
  · exact hE
  · exact hE
  · exact Or.inr (by decide)
  · exact lr_clO_E h hE
theorem lr_meetO_E {K B B2 B3 K1 B1 : Nat → Int64} {n : Nat} {E2 E3 E1 : Int32} (h : lr_meetO K B n B2 E2 B3 E3 K1 B1 E1) : E1 = 0 ∨ E1 = 1 := by
  rcases h with ⟨_, _, _, rfl⟩ | ⟨_, _, K0, h, _⟩
  · exact Or.inr (by decide)
  · exact lr_clO_E h (Or.inl (by decide))
theorem lr_joinO_E {K B K2 B2 K3 B3 K1 B1 : Nat → Int64} {n : Nat} {E2 E3 E1 : Int32} (h : lr_joinO K B n K2 B2 E2 K3 B3 E3 K1 B1 E1) (h2 : E2 = 0 ∨ E2 = 1) (h3 : E3 = 0 ∨ E3 = 1) : E1 = 0 ∨ E1 = 1 := by
  rcases h with ⟨_, _, ⟨_, _, rfl⟩, _⟩ | ⟨_, _, _, ⟨_, _, rfl⟩, _⟩ | ⟨_, _, _, rfl, _⟩
  · exact h3
  · exact h2
  · exact Or.inl (by decide)
theorem lr_widO_E {K B K2 B2 K3 B3 K1 B1 : Nat → Int64} {n : Nat} {E2 E3 E1 : Int32} (h : lr_widO K B n K2 B2 E2 K3 B3 E3 K1 B1 E1) (h2 : E2 = 0 ∨ E2 = 1) (h3 : E3 = 0 ∨ E3 = 1) : E1 = 0 ∨ E1 = 1 := by
  rcases h with ⟨_, _, _, rfl⟩ | ⟨_, _, _, _, rfl⟩ | ⟨_, _, h⟩
  · exact h3
  · exact h2
  · exact lr_clO_E h (Or.inl (by decide))
theorem lr_narO_E {K B K2 B2 B3 K1 B1 : Nat → Int64} {n : Nat} {E2 E3 E1 : Int32} (h : lr_narO K B n K2 B2 E2 B3 E3 K1 B1 E1) : E1 = 0 ∨ E1 = 1 := by
  rcases h with ⟨_, _, _, rfl⟩ | ⟨_, _, h⟩
  · exact Or.inr (by decide)
  · exact lr_clO_E h (Or.inl (by decide))
theorem lr_asgO_E {K B B2 K1 B1 : Nat → Int64} {n : Nat} {E2 E1 x a : Int32} {c : Int64} (h : lr_asgO K B n B2 E2 x a c K1 B1 E1) : E1 = 0 ∨ E1 = 1 := by
  rcases h with ⟨_, _, _, rfl⟩ | ⟨_, _, rfl, _⟩
  · exact Or.inr (by decide)
  · exact Or.inl (by decide)
theorem lr_freeO_E {K B K2 B2 K1 B1 : Nat → Int64} {n : Nat} {E2 E1 x : Int32} (h : lr_freeO K B n K2 B2 E2 x K1 B1 E1) (h2 : E2 = 0 ∨ E2 = 1) : E1 = 0 ∨ E1 = 1 := by
  rcases h with ⟨_, _, _, rfl⟩ | ⟨_, _, rfl, _⟩ <;> exact h2
/-- what taking over the made shape does -/
def lr_tkO (n : Nat) (Km Bm : Nat → Int64) (Em : Int32) (K B : Nat → Int64) (K1 B1 : Nat → Int64) (E1 r : Int32) : Prop := (¬ Em = 0 ∨ ¬ lr_tooFar Bm n) ∧ lr_likeO K B n Km Bm Em K1 B1 E1 ∧ ((Em = 0 ∧ r = nI 1) ∨ (¬ Em = 0 ∧ r = nI 0))
theorem okN.nz {x : Int32} {N : Nat} (h : okN N x) : ¬ x = 0 := fun q => h.1 (by rw [q]; decide)
theorem okN.T {x : Int32} {N : Nat} (h : okN N x) (hN : N ≤ 5) : okT N x := by
  obtain ⟨k, h1, h2, rfl⟩ := h.k hN
  refine ⟨fun q => ?_, h.2⟩
  have a := Int32.lt_iff_toInt_lt.mp q
  rw [lr_negI (by rw [nI_toInt (by omega)]; omega), nI_toInt (by omega), nI_toInt (by omega)] at a
  omega
theorem okN.tm {x : Int32} {N : Nat} (h : okN N x) (hN : N ≤ 5) : lr_tm x (2 * N) := (h.T hN).tm hN
theorem lr_tm0 {n : Nat} : lr_tm (nI 0) n := ⟨nI_small (by decide), fun h => absurd nI_0 h⟩
def okB (z : Int32) : Prop := ¬ z < nI 1 ∧ z ≤ nI 62
/-- the point's number at a place -/
def lr_num (nu : Nat → Int64) (i : Nat) : Int64 := if i % 2 = 0 then nu (i / 2) else -nu (i / 2)
def lr_cntE (E : Nat → Int32) (k : Nat) : Nat := lr_it (fun i a => a + (if E i = 0 then 0 else 1)) k 0
/-- an index of an array -/
def lr_arF (B Tr : Nat → Int64) (n : Nat) (y z : Int32) : Nat → Int64 := lr_lower (lr_lower (lr_copy B Tr (n * n)) n (lr_pl (-y)) (lr_pl (-y)) 0) n (lr_pl y) (lr_pl (-z)) (-1)
def lr_arO (B : Nat → Int64) (E : Int32) (Tr : Nat → Int64) (n : Nat) (y z : Int32) (r : Int32) : Prop :=
  ((lr_gr B n E (-y) (nI 0) ≤ 0 ∧ lr_gr B n E y (-z) ≤ -1) ∧ r = nI 1) ∨ (¬ (lr_gr B n E (-y) (nI 0) ≤ 0 ∧ lr_gr B n E y (-z) ≤ -1) ∧ ((lr_okA (lr_arF B Tr n y z) n ∧ r = nI 0) ∨ (¬ lr_okA (lr_arF B Tr n y z) n ∧ r = -1)))
theorem mz_nz {x : Int32} (h : ¬ x = 0) : ¬ -x = 0 := fun q => h (by rw [← lr_negneg x, q]; decide)
theorem gq_t {r : Int32} {P Q : Prop} (h : (r = nI 1 ∧ P ∧ Q) ∨ (r = nI 0 ∧ ¬ P)) (c : r = 0) : ¬ P := by
  rcases h with ⟨h1, _⟩ | ⟨_, h⟩
  · rw [h1] at c; exact absurd c (by decide)
  · exact h
theorem gq_f {r : Int32} {P Q : Prop} (h : (r = nI 1 ∧ P ∧ Q) ∨ (r = nI 0 ∧ ¬ P)) (c : ¬ r = 0) : P := by
  rcases h with ⟨_, h, _⟩ | ⟨h1, _⟩
  · exact h
  · rw [h1] at c; exact absurd (by decide) c
def okW (x : Int32) : Prop := ¬ x < 0 ∧ x ≤ nI 9
theorem okW.k {x : Int32} (h : okW x) : ∃ q, q ≤ 9 ∧ x = nI q := by
  obtain ⟨j, hj, rfl⟩ := nI_of h.1
  exact ⟨j, (nI_leI hj (by decide)).mp h.2, rfl⟩
def okK (m : Nat) (x y : Int32) : Prop := (¬ x < 0 ∧ ¬ nI m ≤ x) ∧ ¬ y < 0 ∧ y < nI 3
theorem okK.k {m : Nat} {x y : Int32} (hm : m < 2 ^ 31) (h : okK m x y) : ∃ k, k < m ∧ x = nI k ∧ ∃ q, q < 3 ∧ y = nI q := by
  obtain ⟨j, hj, rfl⟩ := nI_of h.1.1
  obtain ⟨q, hq, rfl⟩ := nI_of h.2.1
  have h1 : ¬ m ≤ j := fun z => h.1.2 ((nI_leI hm hj).mpr z)
  exact ⟨j, by omega, rfl, q, (nI_ltI hq (by decide)).mp h.2.2, rfl⟩
theorem lr_nn {N : Nat} (h : N ≤ 5) : N * N ≤ 25 := Nat.mul_le_mul h h
