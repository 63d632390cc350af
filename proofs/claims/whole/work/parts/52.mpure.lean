/-! the reference's own closing and the cells that it changes -/
theorem lm_up4 (F : Nat → Int64) (a b c d q : Nat) (v : Int64) : vp_updL (vp_updL (vp_updL (vp_updL F a v) b v) c v) d v q = if q = a ∨ q = b ∨ q = c ∨ q = d then v else F q := by
  unfold vp_updL
  by_cases h1 : q = a <;> by_cases h2 : q = b <;> by_cases h3 : q = c <;> by_cases h4 : q = d <;> simp [h1, h2, h3, h4]
def lm_drp (x n : Nat) (D : Nat → Int64) : Nat → Int64 := lr_it (fun k D => lr_it (fun t D => vp_updL (vp_updL D (10 * (2 * x - 2 + t) + k) lr_E) (10 * k + (2 * x - 2 + t)) lr_E) 2 D) n D
def lm_dropM (X : Nat → Nat → Int64) (x : Nat) : Nat → Nat → Int64 := fun i k => if i / 2 = x - 1 ∨ k / 2 = x - 1 then lr_E else X i k
theorem lm_drp_at {D : Nat → Int64} {x n i k : Nat} (hx : 1 ≤ x) (hx5 : x ≤ 5) (hn : n ≤ 10) (hi : i < 10) (hk : k < 10) : lm_drp x n D (10 * i + k) = if (i / 2 = x - 1 ∧ k < n) ∨ (k / 2 = x - 1 ∧ i < n) then lr_E else D (10 * i + k) := by
  induction n with
  | zero => rw [if_neg (by omega)]; rfl
  | succ n ih =>
    have e : lm_drp x (n + 1) D = vp_updL (vp_updL (vp_updL (vp_updL (lm_drp x n D) (10 * (2 * x - 2 + 0) + n) lr_E) (10 * n + (2 * x - 2 + 0)) lr_E) (10 * (2 * x - 2 + 1) + n) lr_E) (10 * n + (2 * x - 2 + 1)) lr_E := rfl
    rw [e, lm_up4, ih (by omega)]
    by_cases h1 : (i / 2 = x - 1 ∧ k < n) ∨ (k / 2 = x - 1 ∧ i < n)
    · rw [if_pos h1, if_pos (show (i / 2 = x - 1 ∧ k < n + 1) ∨ (k / 2 = x - 1 ∧ i < n + 1) by omega)]
      split <;> rfl
    · rw [if_neg h1]
      by_cases h2 : (i / 2 = x - 1 ∧ k < n + 1) ∨ (k / 2 = x - 1 ∧ i < n + 1)
      · rw [if_pos h2, if_pos (by omega)]
      · rw [if_neg h2, if_neg (by omega)]
theorem lm_ag_drop {N x : Nat} {D : Nat → Int64} {X : Nat → Nat → Int64} (hN : N ≤ 5) (hx : 1 ≤ x) (hxN : x ≤ N) (h : lm_ag N D X) : lm_ag N (lm_drp x 10 D) (lm_dropM X x) := fun i k hi hk => by
  rw [lm_drp_at hx (by omega) (by omega) (by omega) (by omega), h i k hi hk]
  unfold lm_dropM
  by_cases h1 : i / 2 = x - 1 ∨ k / 2 = x - 1
  · rw [if_pos h1, if_pos (by omega)]
  · rw [if_neg h1, if_neg (by omega)]
/-- a row is added -/
def lm_av (x y : Int32) (c : Int64) : Int64 := if x = 0 then 2 * c else if y = 0 then 2 * c else c
def lm_adD (D : Nat → Int64) (i k : Nat) (v : Int64) : Nat → Int64 := if D (10 * i + k) ≤ v then D else vp_updL (vp_updL D (10 * i + k) v) (10 * k + i) v
def lm_adM (X : Nat → Nat → Int64) (i k : Nat) (v : Int64) : Nat → Nat → Int64 := fun a b => if X i k ≤ v then X a b else if (a = i ∧ b = k) ∨ (a = k ∧ b = i) then v else X a b
theorem lm_up2 (F : Nat → Int64) (a b q : Nat) (v : Int64) : vp_updL (vp_updL F a v) b v q = if q = a ∨ q = b then v else F q := by
  unfold vp_updL
  by_cases h1 : q = a <;> by_cases h2 : q = b <;> simp [h1, h2]
theorem lm_ag_ad {N i k : Nat} {D : Nat → Int64} {X : Nat → Nat → Int64} {v : Int64} (hN : N ≤ 5) (hi : i < 2 * N) (hk : k < 2 * N) (h : lm_ag N D X) : lm_ag N (lm_adD D i k v) (lm_adM X i k v) := fun a b ha hb => by
  unfold lm_adD lm_adM
  rw [h i k hi hk]
  by_cases hv : X i k ≤ v
  · rw [if_pos hv, if_pos hv, h a b ha hb]
  · rw [if_neg hv, if_neg hv, lm_up2, h a b ha hb]
    by_cases h1 : (a = i ∧ b = k) ∨ (a = k ∧ b = i)
    · rw [if_pos h1, if_pos (by omega)]
    · rw [if_neg h1, if_neg (by omega)]
def lm_addM (X : Nat → Nat → Int64) (x y : Int32) (c : Int64) : Nat → Nat → Int64 := lm_adM X (lr_pl (lm_x1 x y)) (lr_pl (lm_x1 y x)) (lm_av x y c)
/-- the bound of two terms -/
def lm_bd (X : Nat → Nat → Int64) (x y : Int32) : Int64 := if x = -y then 0 else if x = 0 then lm_hf (X (lr_pl y) (lr_pl y)) else if y = 0 then lm_hf (X (lr_pl x) (lr_pl x)) else X (lr_pl x) (lr_pl y)
def lm_fr (i k : Nat) (c : Int64) : Prop := k ≠ lr_op i ∧ c ≠ lr_E ∧ (1000000000000000 < (if i = k then c / 2 else c) ∨ (if i = k then c / 2 else c) < -1000000000000000)
def lm_farM (N : Nat) (Y : Nat → Nat → Int64) : Prop := ∃ i, i < 2 * N ∧ ∃ k, k < 2 * N ∧ lm_fr i k (Y i k)
/-- closing -/
abbrev lm_S := (Nat → Int64) × Int32
def lm_mn0 (c : Int64) : Int64 := if 0 ≤ c then 0 else c
def lm_c0 (n : Nat) (D : Nat → Int64) : Nat → Int64 := lr_it (fun i D => vp_updL D (10 * i + lr_op i) (lm_mn0 (D (10 * i + lr_op i)))) n D
def lm_k (i j k : Nat) (z : lm_S) : lm_S := if z.1 (10 * i + k) ≤ lr_plus (z.1 (10 * i + j)) (z.1 (10 * lr_op j + k)) then z else (vp_updL (vp_updL z.1 (10 * i + k) (lr_plus (z.1 (10 * i + j)) (z.1 (10 * lr_op j + k)))) (10 * k + i) (lr_plus (z.1 (10 * i + j)) (z.1 (10 * lr_op j + k))), nI 1)
def lm_K (i j n : Nat) (z : lm_S) : lm_S := lr_it (fun k z => lm_k i j k z) n z
def lm_I (m j n : Nat) (z : lm_S) : lm_S := lr_it (fun i z => lm_K i j m z) n z
def lm_P (m n : Nat) (z : lm_S) : lm_S := lr_it (fun j z => lm_I m j m z) n z
def lm_neg (m : Nat) (D : Nat → Int64) : Prop := ∃ i, i < m ∧ D (10 * i + lr_op i) < 0
def lm_e (i : Nat) (z : lm_S) : lm_S := if z.1 (11 * i) = lr_E then z else if z.1 (11 * i) - z.1 (11 * i) / 2 * 2 = 0 then z else (vp_updL z.1 (11 * i) (2 * lm_half (z.1 (11 * i))), nI 1)
def lm_E2 (n : Nat) (z : lm_S) : lm_S := lr_it (fun i z => lm_e i z) n z
def lm_c2 (x y : Int64) : Int64 := if x = lr_E ∨ y = lr_E then lr_E else x / 2 + y / 2
def lm_h (i k : Nat) (z : lm_S) : lm_S := if z.1 (10 * i + k) ≤ lm_c2 (z.1 (11 * i)) (z.1 (11 * k)) then z else (vp_updL (vp_updL z.1 (10 * i + k) (lm_c2 (z.1 (11 * i)) (z.1 (11 * k)))) (10 * k + i) (lm_c2 (z.1 (11 * i)) (z.1 (11 * k))), nI 1)
def lm_HK (i n : Nat) (z : lm_S) : lm_S := lr_it (fun k z => lm_h i k z) n z
def lm_H (m n : Nat) (z : lm_S) : lm_S := lr_it (fun i z => lm_HK i m z) n z
def lm_tw (D : Nat → Int64) (i : Nat) : Prop := lr_plus (D (11 * i)) (D (11 * lr_op i)) < 0
def lm_runs (m : Nat) : Nat → lm_S → Option (Nat → Int64) → Prop
  | 0, _, _ => False
  | q + 1, z, o => (z.2 = 0 ∧ o = some z.1) ∨ (¬ z.2 = 0 ∧ (∃ j, j < m ∧ lm_neg m (lm_P m (j + 1) (z.1, nI 0)).1) ∧ o = none) ∨ (¬ z.2 = 0 ∧ (∀ j, j < m → ¬ lm_neg m (lm_P m (j + 1) (z.1, nI 0)).1) ∧ (∃ i, i < m ∧ lm_tw (lm_H m i (lm_E2 m (lm_P m m (z.1, nI 0)))).1 i) ∧ o = none) ∨ (¬ z.2 = 0 ∧ (∀ j, j < m → ¬ lm_neg m (lm_P m (j + 1) (z.1, nI 0)).1) ∧ (∀ i, i < m → ¬ lm_tw (lm_H m i (lm_E2 m (lm_P m m (z.1, nI 0)))).1 i) ∧ lm_runs m q (lm_H m m (lm_E2 m (lm_P m m (z.1, nI 0)))) o)
theorem lm_run_t {m q : Nat} {F : Nat → Int64} {G : Int32} {o : Option (Nat → Int64)} (h : lm_runs m (q + 1) (F, G) o) (c : G = 0) : o = some F := by
  rcases h with h | h | h | h
  · exact h.2
  · exact absurd c h.1
  · exact absurd c h.1
  · exact absurd c h.1
theorem lm_run_1 {m q : Nat} {F : Nat → Int64} {G : Int32} {o : Option (Nat → Int64)} (h : lm_runs m (q + 1) (F, G) o) (c : ¬ G = 0) {j : Nat} (hj : j < m) (hn : lm_neg m (lm_P m (j + 1) (F, nI 0)).1) : o = none := by
  rcases h with h | h | h | h
  · exact absurd h.1 c
  · exact h.2.2
  · exact absurd hn (h.2.1 j hj)
  · exact absurd hn (h.2.1 j hj)
theorem lm_run_2 {m q : Nat} {F : Nat → Int64} {G : Int32} {o : Option (Nat → Int64)} (h : lm_runs m (q + 1) (F, G) o) (c : ¬ G = 0) (hn : ∀ j, j < m → ¬ lm_neg m (lm_P m (j + 1) (F, nI 0)).1) {i : Nat} (hi : i < m) (ht : lm_tw (lm_H m i (lm_E2 m (lm_P m m (F, nI 0)))).1 i) : o = none := by
  rcases h with h | ⟨_, ⟨j, hj, h⟩, _⟩ | h | h
  · exact absurd h.1 c
  · exact absurd h (hn j hj)
  · exact h.2.2.2
  · exact absurd ht (h.2.2.1 i hi)
theorem lm_run_s {m q : Nat} {F : Nat → Int64} {G : Int32} {o : Option (Nat → Int64)} (h : lm_runs m (q + 1) (F, G) o) (c : ¬ G = 0) (hn : ∀ j, j < m → ¬ lm_neg m (lm_P m (j + 1) (F, nI 0)).1) (ht : ∀ i, i < m → ¬ lm_tw (lm_H m i (lm_E2 m (lm_P m m (F, nI 0)))).1 i) : lm_runs m q (lm_H m m (lm_E2 m (lm_P m m (F, nI 0)))) o := by
  rcases h with h | ⟨_, ⟨j, hj, h⟩, _⟩ | ⟨_, _, ⟨i, hi, h⟩, _⟩ | h
  · exact absurd h.1 c
  · exact absurd h (hn j hj)
  · exact absurd h (ht i hi)
  · exact h.2.2.2
def lm_oR (N : Nat) (o : Option (Nat → Nat → Int64)) (o' : Option (Nat → Int64)) : Prop := (o = none ∧ o' = none) ∨ (∃ Y F, o = some Y ∧ o' = some F ∧ lm_ag N F Y)
def lm_Cl (N : Nat) (X : Nat → Nat → Int64) (o : Option (Nat → Nat → Int64)) : Prop := ∀ D, lm_ag N D X → ∃ q o', lm_runs (2 * N) q (lm_c0 (2 * N) D, nI 1) o' ∧ lm_oR N o o'
def lm_res (N : Nat) (o : Option (Nat → Nat → Int64)) (F : Nat → Int64) (r : Int32) : Prop := (r = nI 0 ∧ o = none) ∨ (r = nI 1 ∧ ∃ Y, o = some Y ∧ lm_ag N F Y)
theorem lm_res_0 {N : Nat} {o : Option (Nat → Nat → Int64)} {o' : Option (Nat → Int64)} {F : Nat → Int64} (h : lm_oR N o o') (e : o' = none) : lm_res N o F (nI 0) := by
  rcases h with h | ⟨Y, F', _, h, _⟩
  · exact Or.inl ⟨rfl, h.1⟩
  · rw [h] at e; exact absurd e (by simp)
theorem lm_res_1 {N : Nat} {o : Option (Nat → Nat → Int64)} {o' : Option (Nat → Int64)} {F : Nat → Int64} (h : lm_oR N o o') (e : o' = some F) : lm_res N o F (nI 1) := by
  rcases h with h | ⟨Y, F', h1, h, h2⟩
  · rw [h.2] at e; exact absurd e (by simp)
  · rw [h] at e; injection e with e; subst e; exact Or.inr ⟨rfl, Y, h1, h2⟩
theorem lm_res.z {N : Nat} {o : Option (Nat → Nat → Int64)} {F : Nat → Int64} {r : Int32} (h : lm_res N o F r) : narrow .boolean (.int r) = .int r := by
  rcases h with ⟨h, _⟩ | ⟨h, _⟩ <;> rw [h] <;> rfl
theorem lm_res.n {N : Nat} {o : Option (Nat → Nat → Int64)} {F : Nat → Int64} {r : Int32} (h : lm_res N o F r) (c : r = 0) : o = none := by
  rcases h with ⟨_, h⟩ | ⟨h, _⟩
  · exact h
  · rw [h] at c; exact absurd c (by decide)
theorem lm_res.y {N : Nat} {o : Option (Nat → Nat → Int64)} {F : Nat → Int64} {r : Int32} (h : lm_res N o F r) (c : ¬ r = 0) : r = nI 1 ∧ ∃ Y, o = some Y ∧ lm_ag N F Y := by
  rcases h with ⟨h, _⟩ | h
  · rw [h] at c; exact absurd (by decide) c
  · exact h
theorem lm_res.s {N : Nat} {Y : Nat → Nat → Int64} {F : Nat → Int64} {r : Int32} (h : lm_res N (some Y) F r) : r = nI 1 ∧ lm_ag N F Y := by
  rcases h with ⟨_, h⟩ | ⟨h, Y', h1, h2⟩
  · exact absurd h (by simp)
  · injection h1 with h1; subst h1; exact ⟨h, h2⟩
/-- what is kept of a closed table, of the made rows -/
def lm_kcI (D : Nat → Int64) (u i n : Nat) (R : Nat → Int64) : Nat → Int64 := lr_it (fun k R => if k = lr_op i then R else vp_updL R (100 * u + 10 * i + k) (lm_hv i k (D (10 * i + k)))) n R
def lm_kc (D : Nat → Int64) (m u n : Nat) (R : Nat → Int64) : Nat → Int64 := lr_it (fun i R => lm_kcI D u i m R) n R
def lm_kmI (Md : Nat → Int64) (u i n : Nat) (R : Nat → Int64) : Nat → Int64 := lr_it (fun k R => vp_updL R (100 * u + 10 * i + k) (Md (10 * i + k))) n R
def lm_km (Md : Nat → Int64) (m u n : Nat) (R : Nat → Int64) : Nat → Int64 := lr_it (fun i R => lm_kmI Md u i m R) n R
def lm_mdI (Md : Nat → Int64) (i n : Nat) (D : Nat → Int64) : Nat → Int64 := lr_it (fun k D => vp_updL D (10 * i + k) (lm_db i k (Md (10 * i + k)))) n D
def lm_md (Md : Nat → Int64) (m n : Nat) (D : Nat → Int64) : Nat → Int64 := lr_it (fun i D => lm_mdI Md i m D) n D
theorem lm_ag_md {N : Nat} {D Md : Nat → Int64} {X : Nat → Nat → Int64} (hN : N ≤ 5) (h : lm_ag N Md X) : lm_ag N (lm_md Md (2 * N) (2 * N) D) (fun i k => lm_db i k (X i k)) := lm_ag_it2 (g := fun i k _ => lm_db i k (Md (10 * i + k))) hN (by omega) (Nat.le_refl _) (Nat.le_refl _) (fun i k hi hk => by rw [h i k hi hk])
/-- turning a name -/
def lm_tn (z : Int32) (p i : Nat) : Nat := if z = 0 then i else if i = p then lr_op i else if i = p + 1 then lr_op i else i
def lm_by (p i : Nat) (c : Int64) : Int64 := if i = p then c else if i = p + 1 then -c else 0
theorem lr_op_ev {x i : Nat} (hi : i < 2 * x) : lr_op i < 2 * x := by unfold lr_op; split <;> omega
theorem lm_tn_lt {z : Int32} {p i x : Nat} (h : i < 2 * x) : lm_tn z p i < 2 * x := by
  unfold lm_tn
  have := lr_op_ev h
  split
  · exact h
  · split
    · exact this
    · split
      · exact this
      · exact h
def lm_tnM (X : Nat → Nat → Int64) (z : Int32) (p : Nat) (c : Int64) : Nat → Nat → Int64 := fun i k => lr_plus (X (lm_tn z p i) (lm_tn z p k)) (lm_by p i c + lm_by p k c)
def lm_tI (O : Nat → Int64) (z : Int32) (p : Nat) (c : Int64) (i n : Nat) (D : Nat → Int64) : Nat → Int64 := lr_it (fun k D => vp_updL D (10 * i + k) (lr_plus (O (10 * lm_tn z p i + lm_tn z p k)) (lm_by p i c + lm_by p k c))) n D
def lm_tO (O : Nat → Int64) (z : Int32) (p : Nat) (c : Int64) (n : Nat) (D : Nat → Int64) : Nat → Int64 := lr_it (fun i D => lm_tI O z p c i 10 D) n D
theorem lm_ag_tn {N p : Nat} {O D : Nat → Int64} {X : Nat → Nat → Int64} {z : Int32} {c : Int64} (hN : N ≤ 5) (h : lm_ag N O X) : lm_ag N (lm_tO O z p c 10 D) (lm_tnM X z p c) := lm_ag_it2 (g := fun i k _ => lr_plus (O (10 * lm_tn z p i + lm_tn z p k)) (lm_by p i c + lm_by p k c)) hN (by omega) (by omega) (by omega) (fun i k hi hk => by
  unfold lm_tnM; rw [h _ _ (lm_tn_lt hi) (lm_tn_lt hk)])
/-- a row is listed -/
def lm_lsO (v : Int64) (x y : Int32) (nm : Nat) (nA nB : Nat → Int32) (nC : Nat → Int64) (Lf : Nat → Int32) (nm1 : Nat) (nA1 nB1 : Nat → Int32) (nC1 : Nat → Int64) (Lf1 : Nat → Int32) : Prop := (v = lr_E ∧ nm1 = nm ∧ nA1 = nA ∧ nB1 = nB ∧ nC1 = nC ∧ Lf1 = Lf) ∨ (¬ v = lr_E ∧ nm1 = nm + 1 ∧ nA1 = upd nA nm x ∧ nB1 = upd nB nm y ∧ nC1 = vp_updL nC nm v ∧ Lf1 = upd Lf nm (nI 1))
def lm_csR (N : Nat) (e : Int32) (o : Option (Nat → Nat → Int64)) (D F : Nat → Int64) (r : Int32) : Prop := (¬ e = 0 ∧ r = nI 0 ∧ F = D) ∨ (e = 0 ∧ lm_res N o F r)
theorem lm_csR.n {N : Nat} {e : Int32} {Y : Nat → Nat → Int64} {D F : Nat → Int64} {r : Int32} (h : lm_csR N e (some Y) D F r) (c : r = 0) : ¬ e = 0 := by
  rcases h with h | ⟨_, h⟩
  · exact h.1
  · exact absurd (h.n c) (by simp)
theorem lm_csR.y {N : Nat} {e : Int32} {Y : Nat → Nat → Int64} {D F : Nat → Int64} {r : Int32} (h : lm_csR N e (some Y) D F r) (c : ¬ r = 0) : e = 0 ∧ r = nI 1 ∧ lm_ag N F Y := by
  rcases h with h | ⟨h1, h⟩
  · rw [h.2.1] at c; exact absurd (by decide) c
  · exact ⟨h1, h.s⟩
theorem lm_csR.e {N : Nat} {e : Int32} {Y : Nat → Nat → Int64} {D F : Nat → Int64} {r : Int32} (h : lm_csR N e (some Y) D F r) (c : e = 0) : r = nI 1 ∧ lm_ag N F Y := by
  rcases h with h | ⟨h1, h⟩
  · exact absurd c h.1
  · exact h.s
def lm_asR (P : Prop) (th r : Int32) : Prop := (r = nI 1 ∧ P ∧ th = nI 0) ∨ (r = nI 0 ∧ ¬ P ∧ th = nI 1)
theorem lm_asR.y {P : Prop} {th r : Int32} (h : lm_asR P th r) (c : ¬ r = 0) : P ∧ th = nI 0 := by
  rcases h with h | h
  · exact h.2
  · rw [h.1] at c; exact absurd (by decide) c
theorem lm_asR.n {P : Prop} {th r : Int32} (h : lm_asR P th r) (c : r = 0) : ¬ P ∧ th = nI 1 := by
  rcases h with h | h
  · rw [h.1] at c; exact absurd c (by decide)
  · exact h.2
def lm_kcO (z : Int32) (D : Nat → Int64) (N u : Nat) (R : Nat → Int64) (Em : Nat → Int32) (R1 : Nat → Int64) (E1 : Nat → Int32) (r : Int32) : Prop := (z = 0 ∧ r = nI 0 ∧ R1 = lm_none R u ∧ E1 = upd (upd Em u (nI 1)) u (nI 1)) ∨ (¬ z = 0 ∧ r = nI 1 ∧ R1 = lm_kc D (2 * N) u (2 * N) (lm_none R u) ∧ E1 = upd (upd Em u (nI 1)) u (nI 0))
theorem lm_kcW {cJ cZ : ClassId} {w : va_W} {b N u : Nat} {A : Nat → Nat} {D R : Nat → Int64} {Em : Nat → Int32} {z r : Int32} (h : (z = 0 ∧ r = nI 0 ∧ w[b + 1]? = some (A 1, .inl (cJ, 800, .inr (.inl (lm_none R u)))) ∧ w[b + 2]? = some (A 2, .inl (cZ, 8, .inl (upd (upd Em u (nI 1)) u (nI 1))))) ∨ (¬ z = 0 ∧ r = nI 1 ∧ w[b + 1]? = some (A 1, .inl (cJ, 800, .inr (.inl (lm_kc D (2 * N) u (2 * N) (lm_none R u))))) ∧ w[b + 2]? = some (A 2, .inl (cZ, 8, .inl (upd (upd Em u (nI 1)) u (nI 0)))))) : ∃ R1 E1, lm_kcO z D N u R Em R1 E1 r ∧ w[b + 1]? = some (A 1, .inl (cJ, 800, .inr (.inl R1))) ∧ w[b + 2]? = some (A 2, .inl (cZ, 8, .inl E1)) := by
  rcases h with ⟨h1, h2, h3, h4⟩ | ⟨h1, h2, h3, h4⟩
  · exact ⟨_, _, Or.inl ⟨h1, h2, rfl, rfl⟩, h3, h4⟩
  · exact ⟨_, _, Or.inr ⟨h1, h2, rfl, rfl⟩, h3, h4⟩
theorem lm_ct1 {P1 P2 Q1 Q2 : Prop} (h : (¬ nI 1 = 0 ∧ P1 ∧ P2) ∨ (nI 1 = 0 ∧ Q1 ∧ Q2)) : P1 ∧ P2 := by
  rcases h with h | h
  · exact h.2
  · exact absurd h.1 (by decide)
theorem lm_ct0 {P1 P2 Q1 Q2 : Prop} (h : (¬ nI 0 = 0 ∧ P1 ∧ P2) ∨ (nI 0 = 0 ∧ Q1 ∧ Q2)) : Q1 ∧ Q2 := by
  rcases h with h | h
  · exact absurd (by decide) h.1
  · exact h.2
