/-! what the reference's public methods do -/
def lm_F (N : Nat) (R : Nat → Int64) (Em : Nat → Int32) (CF : Nat → Nat → Nat → Int64) : Prop := ∀ k, k < 8 → Em k = 0 → lm_Cl N (lm_mx R k) (some (CF k))
def lm_rs (R : Nat → Int64) (k i j : Nat) (v : Int64) : Nat → Int64 := if R (100 * k + 10 * i + j) ≤ v then R else vp_updL (vp_updL R (100 * k + 10 * i + j) v) (100 * k + 10 * j + i) v
def lm_rv (y z : Int32) (v : Int64) : Int64 := if y = z then lm_half v else v
def lm_rowR (R : Nat → Int64) (k : Nat) (y z : Int32) (v : Int64) : Nat → Int64 := lm_rs R k (lr_pl (lm_x1 y z)) (lr_pl (lm_x1 z y)) (lm_rv y z v)
def lm_bk (R R1 : Nat → Int64) (k i j : Nat) : Nat → Int64 := vp_updL (vp_updL R1 (100 * k + 10 * i + j) (R (100 * k + 10 * i + j))) (100 * k + 10 * j + i) (R (100 * k + 10 * i + j))
def lm_rowO (N : Nat) (R : Nat → Int64) (Em : Nat → Int32) (x y z : Int32) (v : Int64) (o : Option (Nat → Nat → Int64)) (th r : Int32) (R1 : Nat → Int64) (E1 : Nat → Int32) : Prop :=
  (¬ (okS x ∧ okT N y ∧ okT N z) ∧ th = nI 1 ∧ R1 = R ∧ E1 = Em) ∨ ((okS x ∧ okT N y ∧ okT N z) ∧ ¬ okG v ∧ th = nI 2 ∧ R1 = R ∧ E1 = Em) ∨
  (∃ k, k < 8 ∧ x = nI k ∧ okT N y ∧ okT N z ∧ okG v ∧ ((¬ Em k = 0 ∧ th = nI 0 ∧ r = nI 0 ∧ R1 = R ∧ E1 = Em) ∨ (Em k = 0 ∧ y = -z ∧ 0 ≤ v ∧ th = nI 0 ∧ r = nI 1 ∧ R1 = R ∧ E1 = Em) ∨ (Em k = 0 ∧ y = -z ∧ ¬ 0 ≤ v ∧ th = nI 0 ∧ r = nI 0 ∧ R1 = lm_none R k ∧ E1 = upd Em k (nI 1)) ∨ (Em k = 0 ∧ ¬ y = -z ∧ o = none ∧ th = nI 0 ∧ r = nI 0 ∧ R1 = lm_none (lm_rowR R k y z v) k ∧ E1 = upd Em k (nI 1)) ∨ (Em k = 0 ∧ ¬ y = -z ∧ ∃ Y, o = some Y ∧ ((lm_farM N Y ∧ th = nI 3 ∧ r = nI 0 ∧ R1 = lm_bk R (lm_rowR R k y z v) k (lr_pl (lm_x1 y z)) (lr_pl (lm_x1 z y)) ∧ E1 = Em) ∨ (¬ lm_farM N Y ∧ th = nI 0 ∧ r = nI 1 ∧ R1 = lm_rowR R k y z v ∧ E1 = Em)))))
def lm_kv (R : Nat → Int64) (k : Nat) (y z : Int32) : Int64 := if y = z then lr_E else if y = -z then lr_E else R (100 * k + 10 * lr_pl (lm_x1 y z) + lr_pl (lm_x1 z y))
def lm_mnn (a b : Int64) : Int64 := if b ≤ a then b else a
def lm_mxx (a b : Int64) : Int64 := if a ≤ b then b else a
def lm_mnM (X Y : Nat → Nat → Int64) : Nat → Nat → Int64 := fun i k => lm_mnn (X i k) (Y i k)
def lm_jX (Em : Nat → Int32) (CF : Nat → Nat → Nat → Int64) (k2 k3 : Nat) : Nat → Nat → Int64 := if Em k2 = 0 then (if Em k3 = 0 then (fun i k => lm_mxx (CF k2 i k) (CF k3 i k)) else CF k2) else CF k3
def lm_3 (x y z : Int32) (k1 k2 k3 : Nat) : Prop := k1 < 8 ∧ k2 < 8 ∧ k3 < 8 ∧ x = nI k1 ∧ y = nI k2 ∧ z = nI k3
def lm_meetO (N : Nat) (R : Nat → Int64) (Em : Nat → Int32) (x y z : Int32) (o : Option (Nat → Nat → Int64)) (th r : Int32) (R1 : Nat → Int64) (E1 : Nat → Int32) : Prop :=
  (¬ (okS x ∧ okS y ∧ okS z) ∧ th = nI 1 ∧ R1 = R ∧ E1 = Em) ∨ (∃ k1 k2 k3, lm_3 x y z k1 k2 k3 ∧ (((¬ Em k2 = 0 ∨ ¬ Em k3 = 0) ∧ th = nI 0 ∧ ∃ F, lm_kcO (nI 0) F N k1 R Em R1 E1 r) ∨ (Em k2 = 0 ∧ Em k3 = 0 ∧ ∃ F r1, lm_res N o F r1 ∧ ((¬ r1 = 0 ∧ (∀ Y, o = some Y → lm_farM N Y) ∧ th = nI 2 ∧ r = nI 0 ∧ R1 = R ∧ E1 = Em) ∨ ((∀ Y, o = some Y → ¬ lm_farM N Y) ∧ th = nI 0 ∧ lm_kcO r1 F N k1 R Em R1 E1 r)))))
def lm_joinO (N : Nat) (R : Nat → Int64) (Em : Nat → Int32) (x y z : Int32) (o : Option (Nat → Nat → Int64)) (th r : Int32) (R1 : Nat → Int64) (E1 : Nat → Int32) : Prop :=
  (¬ (okS x ∧ okS y ∧ okS z) ∧ th = nI 1 ∧ R1 = R ∧ E1 = Em) ∨ (∃ k1 k2 k3, lm_3 x y z k1 k2 k3 ∧ th = nI 0 ∧ ((¬ Em k2 = 0 ∧ ¬ Em k3 = 0 ∧ ∃ F, lm_kcO (nI 0) F N k1 R Em R1 E1 r) ∨ ((Em k2 = 0 ∨ Em k3 = 0) ∧ ∃ F r1 r2, lm_res N o F r1 ∧ ((r1 = 0 ∧ r2 = nI 0) ∨ (¬ r1 = 0 ∧ r2 = nI 1)) ∧ lm_kcO r2 F N k1 R Em R1 E1 r)))
def lm_wc (i k : Nat) (d c : Int64) : Int64 := if lm_db i k c < d then lr_E else c
def lm_wdI (F R : Nat → Int64) (k2 i n : Nat) (Md : Nat → Int64) : Nat → Int64 := lr_it (fun k Md => vp_updL Md (10 * i + k) (lm_wc i k (F (10 * i + k)) (R (100 * k2 + 10 * i + k)))) n Md
def lm_wd (F R : Nat → Int64) (k2 n : Nat) (Md : Nat → Int64) : Nat → Int64 := lr_it (fun i Md => lm_wdI F R k2 i 10 Md) n Md
def lm_wM (X : Nat → Nat → Int64) (R : Nat → Int64) (k2 : Nat) : Nat → Nat → Int64 := fun i k => lm_wc i k (X i k) (R (100 * k2 + 10 * i + k))
theorem lm_ag_wd {N k2 : Nat} {F R Md : Nat → Int64} {X : Nat → Nat → Int64} (hN : N ≤ 5) (h : lm_ag N F X) : lm_ag N (lm_wd F R k2 10 Md) (lm_wM X R k2) := lm_ag_it2 (g := fun i k _ => lm_wc i k (F (10 * i + k)) (R (100 * k2 + 10 * i + k))) hN (by omega) (by omega) (by omega) (fun i k hi hk => by rw [h i k hi hk]; rfl)
def lm_keptO (N : Nat) (Md : Nat → Int64) (k1 : Nat) (R : Nat → Int64) (Em : Nat → Int32) (R1 : Nat → Int64) (E1 : Nat → Int32) : Prop := R1 = lm_km Md (2 * N) k1 (2 * N) (lm_none R k1) ∧ E1 = upd (upd Em k1 (nI 1)) k1 (nI 0)
def lm_widO (N : Nat) (R : Nat → Int64) (Em : Nat → Int32) (CF : Nat → Nat → Nat → Int64) (x y z : Int32) (Y : Nat → Nat → Int64) (th r : Int32) (R1 : Nat → Int64) (E1 : Nat → Int32) : Prop :=
  (¬ (okS x ∧ okS y ∧ okS z) ∧ th = nI 1 ∧ R1 = R ∧ E1 = Em) ∨ (∃ k1 k2 k3, lm_3 x y z k1 k2 k3 ∧ (((¬ Em k2 = 0 ∨ ¬ Em k3 = 0) ∧ th = nI 0 ∧ ∃ k0, ((¬ Em k2 = 0 ∧ k0 = k3) ∨ (Em k2 = 0 ∧ k0 = k2)) ∧ R1 = lm_cpR R k1 k0 ∧ E1 = upd Em k1 (Em k0) ∧ ((E1 k1 = 0 ∧ r = nI 1) ∨ (¬ E1 k1 = 0 ∧ r = nI 0))) ∨ (Em k2 = 0 ∧ Em k3 = 0 ∧ ((lm_farM N Y ∧ th = nI 2 ∧ r = nI 0 ∧ R1 = R ∧ E1 = Em) ∨ (¬ lm_farM N Y ∧ th = nI 0 ∧ r = nI 1 ∧ ∃ Md, lm_ag N Md (lm_wM (CF k3) R k2) ∧ lm_keptO N Md k1 R Em R1 E1)))))
def lm_nw (i k : Nat) (c : Int64) : Int32 := if c = lr_E then (if k = lr_op i then nI 0 else nI 1) else nI 0
def lm_nc (i k : Nat) (c v d : Int64) : Int64 := if lm_nw i k c = 0 then d else v
def lm_ndI (O F R : Nat → Int64) (k2 i n : Nat) (Md : Nat → Int64) : Nat → Int64 := lr_it (fun k Md => vp_updL Md (10 * i + k) (lm_nc i k (O (10 * i + k)) (lm_hv i k (F (10 * i + k))) (R (100 * k2 + 10 * i + k)))) n Md
def lm_nd (O F R : Nat → Int64) (k2 m n : Nat) (Md : Nat → Int64) : Nat → Int64 := lr_it (fun i Md => lm_ndI O F R k2 i m Md) n Md
def lm_nM (X Y : Nat → Nat → Int64) (R : Nat → Int64) (k2 : Nat) : Nat → Nat → Int64 := fun i k => lm_nc i k (X i k) (lm_hv i k (Y i k)) (R (100 * k2 + 10 * i + k))
theorem lm_ag_nd {N k2 : Nat} {O F R Md : Nat → Int64} {X Y : Nat → Nat → Int64} (hN : N ≤ 5) (h1 : lm_ag N O X) (h2 : lm_ag N F Y) : lm_ag N (lm_nd O F R k2 (2 * N) (2 * N) Md) (lm_nM X Y R k2) := lm_ag_it2 (g := fun i k _ => lm_nc i k (O (10 * i + k)) (lm_hv i k (F (10 * i + k))) (R (100 * k2 + 10 * i + k))) hN (by omega) (by omega) (by omega) (fun i k hi hk => by rw [h1 i k hi hk, h2 i k hi hk]; rfl)
def lm_narO (N : Nat) (R : Nat → Int64) (Em : Nat → Int32) (CF : Nat → Nat → Nat → Int64) (x y z : Int32) (o : Option (Nat → Nat → Int64)) (th r : Int32) (R1 : Nat → Int64) (E1 : Nat → Int32) : Prop :=
  (¬ (okS x ∧ okS y ∧ okS z) ∧ th = nI 1 ∧ R1 = R ∧ E1 = Em) ∨ (∃ k1 k2 k3, lm_3 x y z k1 k2 k3 ∧ (((¬ Em k2 = 0 ∨ ¬ Em k3 = 0) ∧ th = nI 0 ∧ r = nI 0 ∧ R1 = lm_none R k1 ∧ E1 = upd Em k1 (nI 1)) ∨ (Em k2 = 0 ∧ Em k3 = 0 ∧ ((o = none ∧ th = nI 0 ∧ r = nI 0 ∧ R1 = lm_none R k1 ∧ E1 = upd Em k1 (nI 1)) ∨ (∃ Y, o = some Y ∧ ((lm_farM N Y ∧ th = nI 2 ∧ r = nI 0 ∧ R1 = R ∧ E1 = Em) ∨ (¬ lm_farM N Y ∧ th = nI 0 ∧ r = nI 1 ∧ ∃ Md, lm_ag N Md (lm_nM (CF k2) (CF k3) R k2) ∧ lm_keptO N Md k1 R Em R1 E1)))))))
def lm_ls (y z : Int32) : Int32 := if z = -y then nI 1 else nI 0
def lm_setM (X : Nat → Nat → Int64) (k1 : Nat) (z : Int32) (v : Int64) : Nat → Nat → Int64 := if z = nI k1 then lm_tnM X (lm_ls (nI k1) z) (2 * k1 - 2) v else if z = -nI k1 then lm_tnM X (lm_ls (nI k1) z) (2 * k1 - 2) v else lm_addM (lm_addM (lm_dropM X k1) (nI k1) (-z) v) (-nI k1) z (-v)
def lm_setO (N : Nat) (R : Nat → Int64) (Em : Nat → Int32) (x y z : Int32) (v : Int64) (o : Option (Nat → Nat → Int64)) (th r : Int32) (R1 : Nat → Int64) (E1 : Nat → Int32) : Prop :=
  (¬ (okS x ∧ okN N y ∧ okT N z) ∧ th = nI 1 ∧ R1 = R ∧ E1 = Em) ∨ ((okS x ∧ okN N y ∧ okT N z) ∧ ¬ okG v ∧ th = nI 2 ∧ R1 = R ∧ E1 = Em) ∨
  (∃ k k1, k < 8 ∧ x = nI k ∧ 1 ≤ k1 ∧ k1 ≤ N ∧ y = nI k1 ∧ okT N z ∧ okG v ∧ ((¬ Em k = 0 ∧ th = nI 0 ∧ ∃ F, lm_kcO (nI 0) F N k R Em R1 E1 r) ∨ (Em k = 0 ∧ ∃ F r1, lm_res N o F r1 ∧ ((¬ r1 = 0 ∧ (∀ Y, o = some Y → lm_farM N Y) ∧ th = nI 3 ∧ r = nI 0 ∧ R1 = R ∧ E1 = Em) ∨ ((∀ Y, o = some Y → ¬ lm_farM N Y) ∧ th = nI 0 ∧ lm_kcO r1 F N k R Em R1 E1 r)))))
def lm_forO (N : Nat) (R : Nat → Int64) (Em : Nat → Int32) (x y : Int32) (o : Option (Nat → Nat → Int64)) (th r : Int32) (R1 : Nat → Int64) (E1 : Nat → Int32) : Prop :=
  (¬ (okS x ∧ okN N y) ∧ th = nI 1 ∧ R1 = R ∧ E1 = Em) ∨ (∃ k k1, k < 8 ∧ x = nI k ∧ 1 ≤ k1 ∧ k1 ≤ N ∧ y = nI k1 ∧ th = nI 0 ∧ ((¬ Em k = 0 ∧ ∃ F, lm_kcO (nI 0) F N k R Em R1 E1 r) ∨ (Em k = 0 ∧ ∃ F r1, lm_res N o F r1 ∧ lm_kcO r1 F N k R Em R1 E1 r)))
/-- comparing row by row -/
def lm_wt (P : Prop) [Decidable P] (z : Int32) : Int32 := if z = 0 then nI 0 else if P then nI 0 else nI 1
def lm_wtI (F R : Nat → Int64) (k2 i n : Nat) (z : Int32) : Int32 := lr_it (fun k z => lm_wt (lm_db i k (R (100 * k2 + 10 * i + k)) < F (10 * i + k)) z) n z
def lm_wtO (F R : Nat → Int64) (k2 m n : Nat) (z : Int32) : Int32 := lr_it (fun i z => lm_wtI F R k2 i m z) n z
theorem lm_it_b {g : Nat → Int32 → Int32} {n : Nat} {z : Int32} (h : ∀ i z, z = nI 0 ∨ z = nI 1 → g i z = nI 0 ∨ g i z = nI 1) (hz : z = nI 0 ∨ z = nI 1) : lr_it g n z = nI 0 ∨ lr_it g n z = nI 1 := by
  induction n with
  | zero => exact hz
  | succ n ih => exact h n _ ih
theorem lm_wt_b {P : Prop} [Decidable P] {z : Int32} : lm_wt P z = nI 0 ∨ lm_wt P z = nI 1 := by
  unfold lm_wt; split
  · exact Or.inl rfl
  · split
    · exact Or.inl rfl
    · exact Or.inr rfl
theorem lm_b_n {z : Int32} (h : z = nI 0 ∨ z = nI 1) : narrow .boolean (.int z) = .int z := by rcases h with rfl | rfl <;> rfl
theorem lm_wtO_b {F R : Nat → Int64} {k2 m n : Nat} {z : Int32} (hz : z = nI 0 ∨ z = nI 1) : lm_wtO F R k2 m n z = nI 0 ∨ lm_wtO F R k2 m n z = nI 1 := lm_it_b (fun _ _ h => lm_it_b (fun _ _ _ => lm_wt_b) h) hz
def lm_hvv (Pt : Nat → Int64) (i k : Nat) : Int64 := if i = k then lm_val Pt i else lm_val Pt i + lm_val Pt k
def lm_hsI (Pt R : Nat → Int64) (k2 i n : Nat) (z : Int32) : Int32 := lr_it (fun k z => lm_wt (R (100 * k2 + 10 * i + k) < lm_hvv Pt i k) z) n z
def lm_hsO (Pt R : Nat → Int64) (k2 m n : Nat) (z : Int32) : Int32 := lr_it (fun i z => lm_hsI Pt R k2 i m z) n z
theorem lm_hsO_b {Pt R : Nat → Int64} {k2 m n : Nat} {z : Int32} (hz : z = nI 0 ∨ z = nI 1) : lm_hsO Pt R k2 m n z = nI 0 ∨ lm_hsO Pt R k2 m n z = nI 1 := lm_it_b (fun _ _ h => lm_it_b (fun _ _ _ => lm_wt_b) h) hz
theorem lm_it_0 {g : Nat → Int32 → Int32} {n d : Nat} {z : Int32} (h : ∀ i, g i 0 = 0) (hz : lr_it g n z = 0) : lr_it g (n + d) z = 0 := by
  induction d with
  | zero => exact hz
  | succ d ih => show g (n + d) (lr_it g (n + d) z) = 0; rw [ih]; exact h _
theorem lm_hsO_0 {Pt R : Nat → Int64} {k2 m n d : Nat} {z : Int32} (h : lm_hsO Pt R k2 m n z = 0) : lm_hsO Pt R k2 m (n + d) z = 0 := by
  refine lm_it_0 (fun i => ?_) h
  have := lm_it_0 (g := fun k z => lm_wt (R (100 * k2 + 10 * i + k) < lm_hvv Pt i k) z) (n := 0) (d := m) (z := 0) (fun k => rfl) rfl
  rw [Nat.zero_add] at this
  exact this
theorem lm_hsO_e {Pt R : Nat → Int64} {k2 m n q : Nat} {z : Int32} (h : lm_hsO Pt R k2 m n z = 0) (hq : n ≤ q) : lm_hsO Pt R k2 m n z = lm_hsO Pt R k2 m q z := by
  obtain ⟨d, rfl⟩ := Nat.le.dest hq
  rw [h, lm_hsO_0 h]
/-- a point of a shape -/
def lm_smV (X : Nat → Nat → Int64) (x : Nat) : Int64 := if lm_bd X (-nI x) (nI 0) = lr_E then (if lm_bd X (nI x) (nI 0) = lr_E then 0 else lm_bd X (nI x) (nI 0)) else -lm_bd X (-nI x) (nI 0)
def lm_smM (X : Nat → Nat → Int64) (x : Nat) : Nat → Nat → Int64 := lm_addM (lm_addM X (nI x) (nI 0) (lm_smV X x)) (-nI x) (nI 0) (-lm_smV X x)
def lm_smP (YS : Nat → Nat → Nat → Int64) (n : Nat) (Pt : Nat → Int64) : Nat → Int64 := lr_it (fun t Pt => vp_updL Pt (1 + t) (lm_smV (YS t) (1 + t))) n Pt
def lm_arX (X : Nat → Nat → Int64) (y z : Nat) : Nat → Nat → Int64 := lm_addM (lm_addM X (-nI y) (nI 0) 0) (nI y) (-nI z) (-1)
def lm_cntZ (Em : Nat → Int32) (n : Nat) : Nat := lr_it (fun k a => a + (if Em k = 0 then 0 else 1)) n 0
def lm_cntI (R : Nat → Int64) (q i n a : Nat) : Nat := lr_it (fun t a => a + (if R (100 * q + 10 * i + (i + t)) = lr_E then 0 else 1)) n a
def lm_cntR (R : Nat → Int64) (q n : Nat) : Nat := lr_it (fun i a => lm_cntI R q i (10 - i) a) n 0
theorem lm_ag_mn {N : Nat} {F O : Nat → Int64} {X Y : Nat → Nat → Int64} (hN : N ≤ 5) (h1 : lm_ag N O X) (h2 : lm_ag N F Y) : lm_ag N (lr_it (fun k F => vp_updL F k (lm_mnn (O k) (F k))) 100 F) (lm_mnM X Y) := lm_ag_it1 (g := fun k c => lm_mnn (O k) c) hN (fun i k hi hk => by rw [h1 i k hi hk, h2 i k hi hk]; rfl)
theorem lm_ag_mx {N : Nat} {F O : Nat → Int64} {X Y : Nat → Nat → Int64} (hN : N ≤ 5) (h1 : lm_ag N O X) (h2 : lm_ag N F Y) : lm_ag N (lr_it (fun k F => vp_updL F k (lm_mxx (O k) (F k))) 100 F) (fun i k => lm_mxx (X i k) (Y i k)) := lm_ag_it1 (g := fun k c => lm_mxx (O k) c) hN (fun i k hi hk => by rw [h1 i k hi hk, h2 i k hi hk])
theorem lm_csR.y2 {N : Nat} {e : Int32} {o : Option (Nat → Nat → Int64)} {D F : Nat → Int64} {r : Int32} (h : lm_csR N e o D F r) (c : ¬ r = 0) : e = 0 ∧ ∃ Y, o = some Y ∧ lm_ag N F Y := by
  rcases h with h | ⟨h1, h⟩
  · rw [h.2.1] at c; exact absurd (by decide) c
  · exact ⟨h1, (h.y c).2⟩
theorem lm_csR.n2 {N : Nat} {e : Int32} {o : Option (Nat → Nat → Int64)} {D F : Nat → Int64} {r : Int32} (h : lm_csR N e o D F r) (c : r = 0) (he : e = 0) : o = none := by
  rcases h with h | ⟨h1, h⟩
  · exact absurd he h.1
  · exact h.n c
theorem lm_upd_k (f : Nat → Int32) (k : Nat) (x : Int32) : upd f k x k = x := by unfold upd; rw [if_pos rfl]
theorem lm_far_o {N : Nat} {o : Option (Nat → Nat → Int64)} {F : Nat → Int64} {Y : Nat → Nat → Int64} {r : Int32} {P : Prop} (h : lm_res N o F r) (c : ¬ r = 0) (k : ∀ Y, o = some Y → lm_ag N F Y → P) : P := by
  obtain ⟨_, Y, h1, h2⟩ := h.y c
  exact k Y h1 h2
theorem lm_oall {o : Option (Nat → Nat → Int64)} {Y : Nat → Nat → Int64} {P : (Nat → Nat → Int64) → Prop} (h : o = some Y) (hp : P Y) : ∀ Y', o = some Y' → P Y' := fun Y' h' => by
  rw [h] at h'; injection h' with h'; rw [← h']; exact hp
theorem lm_onone {o : Option (Nat → Nat → Int64)} {P : (Nat → Nat → Int64) → Prop} (h : o = none) : ∀ Y', o = some Y' → P Y' := fun Y' h' => by
  rw [h] at h'; exact absurd h' (by simp)
def lm_okK (m : Nat) (x y : Int32) : Prop := (¬ x < 0 ∧ ¬ nI m ≤ x) ∧ ¬ y < 0 ∧ ¬ nI 2 < y
theorem lm_okK.k {m : Nat} {x y : Int32} (hm : m < 2 ^ 31) (h : lm_okK m x y) : ∃ k, k < m ∧ x = nI k ∧ ∃ q, q < 3 ∧ y = nI q := by
  obtain ⟨j, hj, rfl⟩ := nI_of h.1.1
  obtain ⟨q, hq, rfl⟩ := nI_of h.2.1
  have h1 : ¬ m ≤ j := fun z => h.1.2 ((nI_leI hm hj).mpr z)
  have h2 : ¬ 2 < q := fun z => h.2.2 ((nI_ltI (by decide) hq).mpr z)
  exact ⟨j, by omega, rfl, q, by omega, rfl⟩
theorem lm_tmk {N k : Nat} (h1 : 1 ≤ k) (h2 : k ≤ N) (h5 : N ≤ 5) : lr_tm (nI k) (2 * N) := ⟨nI_small (by omega), fun _ => by rw [lr_pl_nI (by omega) (by omega)]; omega⟩
