/-! WORLDS THAT GROW: constructors -/
def gK (j : Nat) (ws w : va_W) : Prop := ∀ q, q < j → w[q]? = ws[q]?
def gA (L : Nat) (ws w : va_W) : Prop := (∀ q, q < L → w[q]? = ws[q]?) ∧ w.length = L + 1
theorem gK.rf {j : Nat} {ws : va_W} : gK j ws ws := fun _ _ => rfl
theorem gK.f {j a b : Nat} {ws w w' : va_W} (h : gK j ws w) (k : gF a b w w') (ha : j ≤ a) : gK j ws w' := fun q hq => (k.1 q (by omega)).trans (h q hq)
theorem gK.a {j L : Nat} {ws w w' : va_W} (h : gK j ws w) (k : gA L w w') (ha : j ≤ L) : gK j ws w' := fun q hq => (k.1 q (by omega)).trans (h q hq)
theorem gK.k {j t : Nat} {ws w w' : va_W} (h : gK j ws w) (k : gK t w w') (ha : j ≤ t) : gK j ws w' := fun q hq => (k q (by omega)).trans (h q hq)
theorem gK.at {j q : Nat} {ws w : va_W} {z : Nat × va_E} (h : gK j ws w) (hq : ws[q]? = some z) (hj : q < j) : w[q]? = some z := (h q hj).trans hq
theorem gA.at {L q : Nat} {ws w : va_W} {z : Nat × va_E} (h : gA L ws w) (hq : ws[q]? = some z) (hj : q < L) : w[q]? = some z := (h.1 q hj).trans hq
theorem gA.mk {L : Nat} {ws : va_W} {z : Nat × va_E} (h : ws.length = L) : gA L ws (ws ++ [z]) := ⟨fun q hq => List.getElem?_append_left (by omega), by simp [h]⟩
theorem tbAt.K {cJ : ClassId} {ws w : va_W} {j h g n t : Nat} {f : Nat → Int64} (ht : tbAt cJ ws j h g n f) (hf : gK t ws w) (ho : j + 2 ≤ t) : tbAt cJ w j h g n f := ⟨hf.at ht.1 (by omega), hf.at ht.2 (by omega)⟩
theorem tbAt.A {cJ : ClassId} {ws w : va_W} {j h g n t : Nat} {f : Nat → Int64} (ht : tbAt cJ ws j h g n f) (hf : gA t ws w) (ho : j + 2 ≤ t) : tbAt cJ w j h g n f := ⟨hf.at ht.1 (by omega), hf.at ht.2 (by omega)⟩
theorem shAt.K {cJ : ClassId} {ws w : va_W} {j n t : Nat} {a : Nat → Nat} {K B : Nat → Int64} {E : Int32} (h : shAt cJ ws j a n K B E) (hf : gK t ws w) (ho : j + 5 ≤ t) : shAt cJ w j a n K B E := ⟨hf.at h.1 (by omega), h.2.1.K hf (by omega), h.2.2.K hf (by omega)⟩
theorem shAt.A {cJ : ClassId} {ws w : va_W} {j n t : Nat} {a : Nat → Nat} {K B : Nat → Int64} {E : Int32} (h : shAt cJ ws j a n K B E) (hf : gA t ws w) (ho : j + 5 ≤ t) : shAt cJ w j a n K B E := ⟨hf.at h.1 (by omega), h.2.1.A hf (by omega), h.2.2.A hf (by omega)⟩
section GG
variable {p : Program} {l : Launch} {e : Env} {R : Room} {s : State} {m : MethodId} {args : Array Value} {below : List Frame} {meth : Method} {c : Code} {H H0 : Heap} {locs : List Loc} {cells slots : Nat} {Q : State → Prop}
variable {D : va_G} {tys : List (ClassId × FieldType)} {A : Nat → Prop} {ws : va_W} {a : Nat} {pc : Nat} {ls : Array Slot} {rest : List Value} {cc : ByteArray} {nL L : Nat} {Ts : List Cond} {own C : String}
theorem g_new {T : u_T} {N ci index : Nat} (S : CallFix p m c cc nL s args Ts own) (hT : ∀ w ∈ wG, w ∈ Ts) (hu : ∀ w ∈ u_ws C T N, w ∈ wG) (ty : Nat → FieldType) (hty : ∀ k, k < N → parseFieldDescriptor (T k).2.2.1 = some (ty k)) (h1 : Cond.classLink own index C ∈ wG) (h2 : Cond.instantiable C N ∈ wG) (h3 : Cond.initialized C ∈ wG)
    (hK : va_K D classes tys s) (hP : va_P D classes ws H) (hD : va_D A ws) (hS : va_S A H0 H locs) (hA : ∀ q, H0.size ≤ q → A q) (hc : classes[ci]? = some (C, T, N)) {fs : List Value} (hfs : ∀ j, j < N → defaultValue (ty j) = vp_V fs j) (hlen : ws.length = L) (hcells : cells + 1 ≤ R.cells) (hslots : slots + N ≤ R.slots) (hdg : decode cc pc = .ok (.new index, 3))
    (kk : ∀ (w : va_W) (q : Nat) (H1 : Heap), w[L]? = some (q, .inr (ci, fs)) → gA L ws w → va_P D classes w H1 → va_D A w → va_S A H0 H1 locs → W p l e R s m args below meth c H1 locs (cells + 1) (slots + N) Q (F0 m (pc + 3) ls (.ref q :: rest))) : W p l e R s m args below meth c H locs cells slots Q (F0 m pc ls rest) :=
  va_new S.1 S.2.1 S.2.2.2.2 (fun w h => hT w (hu w h)) ty hty S.2.2.2.1 (S.2.2.2.2 _ (hT _ h1)) (S.2.2.2.2 _ (hT _ h2)) (S.2.2.2.2 _ (hT _ h3)) hK hP hD hS hA hc hfs hcells hslots hdg (fun q H1 k1 k2 k3 => kk _ q H1 (gw_la hlen) (gA.mk hlen) k1 k2 k3)
theorem g_newJ {cA : ClassId} {t0 k : Nat} (S : CallFix p m c cc nL s args Ts own) (hT : ∀ w ∈ wG, w ∈ Ts) (hK : va_K D classes tys s) (hP : va_P D classes ws H) (hD : va_D A ws) (hS : va_S A H0 H locs) (hA : ∀ q, H0.size ≤ q → A q) (ht : tys[t0]? = some (cA, .long)) (hk : k ≤ 1000) (hlen : ws.length = L) (hcells : cells + 1 ≤ R.cells) (hslots : slots + k ≤ R.slots) (hdg : decode cc pc = .ok (.newarray .long, 2))
    (kk : ∀ (w : va_W) (q : Nat) (H1 : Heap), w[L]? = some (q, .inl (cA, k, .inr (.inl (fun _ => 0)))) → gA L ws w → va_P D classes w H1 → va_D A w → va_S A H0 H1 locs → W p l e R s m args below meth c H1 locs (cells + 1) (slots + k) Q (F0 m (pc + 2) ls (.ref q :: rest))) : W p l e R s m args below meth c H locs cells slots Q (F0 m pc ls (.int (nI k) :: rest)) :=
  va_newa (atype := .long) (a0 := (k, .inr (.inl (fun _ => 0)))) (N' := k) S.1 S.2.1 (S.2.2.2.2 _ (hT _ wm_1_52)) rfl hK hP hD hS hA (fun cA => rfl) (nI_pos (by omega)) (nI_clamp (by omega)) (by show k * 8 ≤ _; omega) hcells hslots hdg (fun q cB H1 hK1 k1 k2 k3 => by
    have e := gw_same hK ht hK1
    subst e
    exact kk _ q H1 (gw_la hlen) (gA.mk hlen) k1 k2 k3)
theorem g_newI {cA : ClassId} {t0 k : Nat} (S : CallFix p m c cc nL s args Ts own) (hT : ∀ w ∈ wG, w ∈ Ts) (hK : va_K D classes tys s) (hP : va_P D classes ws H) (hD : va_D A ws) (hS : va_S A H0 H locs) (hA : ∀ q, H0.size ≤ q → A q) (ht : tys[t0]? = some (cA, .int)) (hk : k ≤ 1000) (hlen : ws.length = L) (hcells : cells + 1 ≤ R.cells) (hslots : slots + k ≤ R.slots) (hdg : decode cc pc = .ok (.newarray .int, 2))
    (kk : ∀ (w : va_W) (q : Nat) (H1 : Heap), w[L]? = some (q, .inl (cA, k, .inl (fun _ => 0))) → gA L ws w → va_P D classes w H1 → va_D A w → va_S A H0 H1 locs → W p l e R s m args below meth c H1 locs (cells + 1) (slots + k) Q (F0 m (pc + 2) ls (.ref q :: rest))) : W p l e R s m args below meth c H locs cells slots Q (F0 m pc ls (.int (nI k) :: rest)) :=
  va_newa (atype := .int) (a0 := (k, .inl (fun _ => 0))) (N' := k) S.1 S.2.1 (S.2.2.2.2 _ (hT _ wm_3_166)) rfl hK hP hD hS hA (fun cA => rfl) (nI_pos (by omega)) (nI_clamp (by omega)) (by show k * 4 ≤ _; omega) hcells hslots hdg (fun q cB H1 hK1 k1 k2 k3 => by
    have e := gw_same hK ht hK1
    subst e
    exact kk _ q H1 (gw_la hlen) (gA.mk hlen) k1 k2 k3)
theorem g_newZ {cA : ClassId} {t0 k : Nat} (S : CallFix p m c cc nL s args Ts own) (hT : ∀ w ∈ wG, w ∈ Ts) (hK : va_K D classes tys s) (hP : va_P D classes ws H) (hD : va_D A ws) (hS : va_S A H0 H locs) (hA : ∀ q, H0.size ≤ q → A q) (ht : tys[t0]? = some (cA, .boolean)) (hk : k ≤ 1000) (hlen : ws.length = L) (hcells : cells + 1 ≤ R.cells) (hslots : slots + k ≤ R.slots) (hdg : decode cc pc = .ok (.newarray .boolean, 2))
    (kk : ∀ (w : va_W) (q : Nat) (H1 : Heap), w[L]? = some (q, .inl (cA, k, .inl (fun _ => 0))) → gA L ws w → va_P D classes w H1 → va_D A w → va_S A H0 H1 locs → W p l e R s m args below meth c H1 locs (cells + 1) (slots + k) Q (F0 m (pc + 2) ls (.ref q :: rest))) : W p l e R s m args below meth c H locs cells slots Q (F0 m pc ls (.int (nI k) :: rest)) :=
  va_newa (atype := .boolean) (a0 := (k, .inl (fun _ => 0))) (N' := k) S.1 S.2.1 (S.2.2.2.2 _ (hT _ wm_3_165)) rfl hK hP hD hS hA (fun cA => rfl) (nI_pos (by omega)) (nI_clamp (by omega)) (by show k * 1 ≤ _; omega) hcells hslots hdg (fun q cB H1 hK1 k1 k2 k3 => by
    have e := gw_same hK ht hK1
    subst e
    exact kk _ q H1 (gw_la hlen) (gA.mk hlen) k1 k2 k3)
theorem g_newS {cA : ClassId} {t0 k index : Nat} (S : CallFix p m c cc nL s args Ts own) (hT : ∀ w ∈ wG, w ∈ Ts) (h1 : Cond.classLink own index C ∈ wG) (hO : va_AO C s) (hK : va_K D classes tys s) (hP : va_P D classes ws H) (hD : va_D A ws) (hS : va_S A H0 H locs) (hA : ∀ q, H0.size ≤ q → A q) (ht : tys[t0]? = some (cA, .object C)) (hk : k ≤ 1000) (hlen : ws.length = L) (hcells : cells + 1 ≤ R.cells) (hslots : slots + k ≤ R.slots) (hdg : decode cc pc = .ok (.anewarray index, 3))
    (kk : ∀ (w : va_W) (q : Nat) (H1 : Heap), w[L]? = some (q, .inl (cA, k, .inr (.inr (.inr (.inr (fun _ => none)))))) → gA L ws w → va_P D classes w H1 → va_D A w → va_S A H0 H1 locs → W p l e R s m args below meth c H1 locs (cells + 1) (slots + k) Q (F0 m (pc + 3) ls (.ref q :: rest))) : W p l e R s m args below meth c H locs cells slots Q (F0 m pc ls (.int (nI k) :: rest)) :=
  va_newq (N' := k) S.1 S.2.1 S.2.2.2.1 (S.2.2.2.2 _ (hT _ h1)) hO hK hP hD hS hA (nI_pos (by omega)) (nI_clamp (by omega)) (by omega) hcells hslots hdg (fun q cB H1 hK1 k1 k2 k3 => by
    have e := gw_same hK ht hK1
    subst e
    exact kk _ q H1 (gw_la hlen) (gA.mk hlen) k1 k2 k3)
theorem g_aast {cA : ClassId} {r : vw_C} {q0 t0 qk ci n v k : Nat} {vs : List Value} {f : Nat → Option Nat} (hx : p.tables.exec = Jvm.exec) (hb : c.code = cc) (hK : va_K D classes tys s) (hP : va_P D classes ws H) (hD : va_D A ws) (hS : va_S A H0 H locs) (ha : ws[q0]? = some (a, .inl (cA, n, .inr (.inr (.inr (.inr f)))))) (ht : tys[t0]? = some (cA, .object r.1)) (hv : ws[qk]? = some (v, .inr (ci, vs))) (hc : classes[ci]? = some r) (hk : k < n) (hn : n ≤ 1000) (hdg : decode cc pc = .ok (.aastore, 1))
    (kk : ∀ (w : va_W) (H1 : Heap) (locs1 : List Loc), w[q0]? = some (a, .inl (cA, n, .inr (.inr (.inr (.inr (va_up f k (some v))))))) → gF q0 (q0 + 1) ws w → va_P D classes w H1 → va_D A w → va_S A H0 H1 locs1 → W p l e R s m args below meth c H1 locs1 cells slots Q (F0 m (pc + 1) ls rest)) : W p l e R s m args below meth c H locs cells slots Q (F0 m pc ls (.ref v :: .int (nI k) :: .ref a :: rest)) := by
  refine va_astq hx hb hK hP hD hS q0 t0 qk ci ha ht hv hc (vp_in_nI hk (by omega)) hdg (fun H1 locs1 h1 h2 h3 => ?_)
  rw [nI_clamp (by omega)] at h1 h2
  exact kk _ H1 locs1 (gw_eq ha) gF.set h1 h2 h3
end GG
/-- the number of names that is taken -/
def lr_N (x : Int32) : Nat := if x.toInt ≤ 1 then 1 else if 5 ≤ x.toInt then 5 else x.toInt.toNat
theorem lr_N_1 (x : Int32) : 1 ≤ lr_N x := by unfold lr_N; split; omega; split <;> omega
theorem lr_N_5 (x : Int32) : lr_N x ≤ 5 := by unfold lr_N; split; omega; split <;> omega
theorem lr_N_lo {x : Int32} (h : x.toInt ≤ 1) : lr_N x = 1 := by unfold lr_N; rw [if_pos h]
theorem lr_N_hi {x : Int32} (h : 5 ≤ x.toInt) : lr_N x = 5 := by unfold lr_N; rw [if_neg (by omega), if_pos h]
theorem lr_N_mid {x : Int32} (h : ¬ x.toInt ≤ 1) (h5 : ¬ 5 ≤ x.toInt) : nI (lr_N x) = x := by
  apply lr_i32
  rw [nI_toInt (by have := lr_N_5 x; omega)]
  unfold lr_N; rw [if_neg h, if_neg h5]; omega
theorem lr_lt {x y : Int32} : x < y ↔ x.toInt < y.toInt := Int32.lt_iff_toInt_lt
theorem lr_leI {x y : Int32} : x ≤ y ↔ x.toInt ≤ y.toInt := Int32.le_iff_toInt_le
theorem lr_N_mm (x : Int32) : (if nI 1 < (if x < nI 5 then x else nI 5) then (if x < nI 5 then x else nI 5) else nI 1) = nI (lr_N x) := by
  have e1 : (nI 1).toInt = 1 := by decide
  have e5 : (nI 5).toInt = 5 := by decide
  by_cases h5 : x < nI 5
  · rw [if_pos h5]
    rw [lr_lt, e5] at h5
    by_cases h1 : nI 1 < x
    · rw [if_pos h1]
      rw [lr_lt, e1] at h1
      exact (lr_N_mid (by omega) (by omega)).symm
    · rw [if_neg h1]
      rw [lr_lt, e1] at h1
      rw [lr_N_lo (by omega)]
  · rw [if_neg h5]
    rw [lr_lt, e5] at h5
    rw [if_pos (by decide), lr_N_hi (by omega)]
theorem shAt.cg {cJ : ClassId} {w : va_W} {j n : Nat} {a a' : Nat → Nat} {K B : Nat → Int64} {E : Int32} (h : shAt cJ w j a n K B E) (e : ∀ r, r < 5 → a' r = a r) : shAt cJ w j a' n K B E := by
  unfold shAt at h ⊢
  rw [e 0 (by omega), e 1 (by omega), e 2 (by omega), e 3 (by omega), e 4 (by omega)]
  exact h
abbrev lr_K0 (n : Nat) : Nat → Int64 := lr_fill (fun _ => 0) (n * n) lr_E
abbrev lr_B0 (n : Nat) : Nat → Int64 := lr_opps (lr_K0 n) n 0
theorem lr_n6 {N : Nat} (h : N ≤ 5) : 3 * (2 * N) * (2 * N) / 2 = 6 * (N * N) ∧ 3 * (2 * N) * (2 * N) ≤ 300 := by
  have : ∀ M, M ≤ 5 → 3 * (2 * M) * (2 * M) / 2 = 6 * (M * M) ∧ 3 * (2 * M) * (2 * M) ≤ 300 := by decide
  exact this N h
/-- the shapes that are there so far -/
def xPar (cJ : ClassId) (w : va_W) (b : Nat) (A : Nat → Nat) (n k : Nat) (sf : Nat → Option Nat) : Prop := ∀ q, q < k → sf q = some (xsh A q 0) ∧ shAt cJ w (b + 2 + 5 * q) (xsh A q) n (lr_K0 n) (lr_B0 n) (nI 0)
def xJoin (A : Nat → Nat) (L : Nat) (a : Nat → Nat) : Nat → Nat := fun i => if i < L then A i else a (i - L)
theorem xJoin_lo {A a : Nat → Nat} {L i : Nat} (h : i < L) : xJoin A L a i = A i := if_pos h
theorem xJoin_hi {A a : Nat → Nat} {L i : Nat} : xJoin A L a (L + i) = a i := by unfold xJoin; rw [if_neg (by omega)]; congr 1; omega
theorem xPar.add {cJ : ClassId} {w : va_W} {b n k : Nat} {A a : Nat → Nat} {sf : Nat → Option Nat} (h : xPar cJ w b A n k sf) (hs : shAt cJ w (b + 2 + 5 * k) a n (lr_K0 n) (lr_B0 n) (nI 0)) : xPar cJ w b (xJoin A (2 + 5 * k) a) n (k + 1) (va_up sf k (some (a 0))) := fun q hq => by
  by_cases e : q = k
  · subst e
    rw [va_up_self]
    have e0 : ∀ r, xsh (xJoin A (2 + 5 * q) a) q r = a r := fun r => xJoin_hi
    exact ⟨by rw [e0], hs.cg (fun r _ => e0 r)⟩
  · rw [va_up_ne _ _ e]
    have e0 : ∀ r, r < 5 → xsh (xJoin A (2 + 5 * k) a) q r = xsh A q r := fun r hr => xJoin_lo (by omega)
    exact ⟨by rw [e0 0 (by omega)]; exact (h q (by omega)).1, (h q (by omega)).2.cg e0⟩
theorem xPar.K {cJ : ClassId} {w w' : va_W} {b n k t : Nat} {A : Nat → Nat} {sf : Nat → Option Nat} (h : xPar cJ w b A n k sf) (hf : gK t w w') (ht : b + 2 + 5 * k ≤ t) : xPar cJ w' b A n k sf := fun q hq => ⟨(h q hq).1, (h q hq).2.K hf (by omega)⟩
theorem xPar.A {cJ : ClassId} {w w' : va_W} {b n k t : Nat} {A : Nat → Nat} {sf : Nat → Option Nat} (h : xPar cJ w b A n k sf) (hf : gA t w w') (ht : b + 2 + 5 * k ≤ t) : xPar cJ w' b A n k sf := fun q hq => ⟨(h q hq).1, (h q hq).2.A hf (by omega)⟩
theorem xPar.F {cJ : ClassId} {w w' : va_W} {b n k x y : Nat} {A : Nat → Nat} {sf : Nat → Option Nat} (h : xPar cJ w b A n k sf) (hf : gF x y w w') (ht : y ≤ b + 2 ∨ b + 2 + 5 * k ≤ x) : xPar cJ w' b A n k sf := fun q hq => ⟨(h q hq).1, (h q hq).2.kept hf (by omega)⟩
abbrev gi_Pc (D : va_G) (cl : List vw_C) (tys : List (ClassId × FieldType)) (av : List Value) (ws : va_W) (sz : Nat) : Array Value → State → Prop := va_Pc av (fun U => (U.heap.size = sz ∧ va_P D cl ws U.heap ∧ va_K D cl tys U ∧ va_D (fun _ => True) ws ∧ gN U) ∧ va_AO "LinearRows$Shape" U)
theorem gi_head {l : Launch} {y : MethodName} {rm : Room} {D : va_G} {cl : List vw_C} {tys : List (ClassId × FieldType)} {av : List Value} {ws : va_W} {sz : Nat} {mc ms : Nat} {cc : ByteArray} {maxL : Nat} {ret : Option FieldType} {Qc : Array Value → State → Outcome → State → Prop} (hy : plainName y.cls = true) (hn : (lg_sl av).length ≤ maxL)
    (body : ∀ (p : Program) (e : Env) (s : State) (m : MethodId) (below : List Frame) (meth : Method) (c : Code), va_AO "LinearRows$Shape" s → s.heap.size = sz → p.tables.exec = Jvm.exec → c.code = cc → meth.sig.returnType = ret → meth.locks = false → c.maxLocals = maxL → s.vm.findClass y.cls = some m.cls → meth.name = y.name → (∀ w ∈ Cond.code y cc maxL ret :: wG, w.before av.toArray s = true) → va_K D cl tys s → gN s → va_P D cl ws s.heap → va_D (va_A ws sz) ws → va_S (va_A ws sz) s.heap s.heap [] → (∀ q, s.heap.size ≤ q → va_A ws sz q) → ∀ (ls : Array Slot), lv_has ls maxL (lv_args 0 av) →
      W p l e rm s m av.toArray below meth c s.heap [] 0 0 (MQ below Qc av.toArray s mc ms (va_A ws sz)) (F0 m 0 ls [])) :
    Met l y (Cond.code y cc maxL ret :: wG) rm (gi_Pc D cl tys av ws sz) Qc mc ms (va_A ws sz) := by
  refine Met.ofW (cc := cc) (maxL := maxL) (ret := ret) hy rfl ?_
  intro p e s m args below meth c s₁ B hml hv
  obtain ⟨rfl, ⟨hsz, hP, hK, hD0, hN⟩, hO⟩ := hv
  have hts := atoms_spec (ws := Cond.code y cc maxL ret :: wG) B.pre
  subst hsz
  rw [lg_entry_eq]
  exact body p e s m below meth c hO rfl B.exec B.bytes B.returns B.notSynchronized hml (findClass_of_methodNamed B.named) (name_of_methodNamed B.named B.method).1 hts hK hN hP hD0.self va_S.rf (fun q h => Or.inr h) _ (lv_entry av hn)
theorem lr_N_eq {x : Int32} (h1 : nI 1 ≤ x) (h5 : x ≤ nI 5) : x = nI (lr_N x) := by
  have e1 : (nI 1).toInt = 1 := by decide
  have e5 : (nI 5).toInt = 5 := by decide
  have a := lr_leI.mp h1
  have b := lr_leI.mp h5
  apply lr_i32
  rw [nI_toInt (by have := lr_N_5 x; omega)]
  unfold lr_N
  split
  · omega
  · split <;> omega
theorem wm_1_21 : Cond.code ⟨"java/lang/Object", "<init>", "()V"⟩ ⟨#[0xb1]⟩ 1 none ∈ wG := List.mem_filter.mpr ⟨List.mem_append_right _ (List.mem_append_left _ (List.mem_of_getElem? (i := 21) rfl)), rfl⟩
theorem lr_N_l {x : Int32} (h : ¬ nI 1 ≤ x) : nI 1 = nI (lr_N x) := by
  have e1 : (nI 1).toInt = 1 := by decide
  have h9 := lr_lt.mp (Int32.not_le.mp h)
  rw [lr_N_lo (by omega)]
theorem lr_N_h {x : Int32} (h : ¬ x ≤ nI 5) : nI 5 = nI (lr_N x) := by
  have e5 : (nI 5).toInt = 5 := by decide
  have h9 := lr_lt.mp (Int32.not_le.mp h)
  rw [lr_N_hi (by omega)]
theorem shAt.F {cJ : ClassId} {ws w : va_W} {j n x y : Nat} {a : Nat → Nat} {K B : Nat → Int64} {E : Int32} (h : shAt cJ ws j a n K B E) (hf : gF x y ws w) (ho : j + 5 ≤ x ∨ y ≤ j) : shAt cJ w j a n K B E := h.kept hf ho
theorem lr_xi {cJ cS : ClassId} {w : va_W} {b h N q30 q68 q83 g91 q98 g106 q117 q136 : Nat} {x : Int32} {A a76 : Nat → Nat} {sf : Nat → Option Nat} (hNx : lr_N x = N) (hA0 : A 0 = h) (hA1 : A 1 = q30)
    (x0 : w[b]? = some (h, .inr (2, [.int (nI N), .int (nI (2 * N)), .ref q30, .ref q68, .ref q83, .ref q98, .ref q117, .ref q136, .int (nI 0)]))) (x1 : w[b + 1]? = some (q30, .inl (cS, 8, .inr (.inr (.inr (.inr sf)))))) (hpar : xPar cJ w b A (2 * N) 8 sf) (ea : a76 0 = q68) (hs76 : shAt cJ w (b + 42) a76 (2 * N) (lr_K0 (2 * N)) (lr_B0 (2 * N)) (nI 0))
    (n83 : w[b + 47]? = some (q83, .inr (0, [.int (nI (2 * N)), .ref g91]))) (n83c : w[b + 47 + 1]? = some (g91, .inl (cJ, 2 * N * (2 * N), .inr (.inl (lr_K0 (2 * N)))))) (n98 : w[b + 49]? = some (q98, .inr (0, [.int (nI (2 * N)), .ref g106]))) (n98c : w[b + 49 + 1]? = some (g106, .inl (cJ, 2 * N * (2 * N), .inr (.inl (lr_K0 (2 * N)))))) (n117 : w[b + 51]? = some (q117, .inl (cJ, N, .inr (.inl (fun _ => 0))))) (n136 : w[b + 52]? = some (q136, .inl (cJ, 6 * (N * N), .inr (.inl (fun _ => 0))))) :
    ∃ A sf, A 0 = h ∧ xAt cJ cS w b A (lr_N x) sf (fun _ => lr_K0 (2 * lr_N x)) (fun _ => lr_B0 (2 * lr_N x)) (fun _ => nI 0) (lr_K0 (2 * lr_N x)) (lr_B0 (2 * lr_N x)) (nI 0) (lr_K0 (2 * lr_N x)) (lr_K0 (2 * lr_N x)) (fun _ => 0) (fun _ => 0) (nI 0) := by
  subst hNx
  obtain ⟨C, hC⟩ : ∃ C, C = xJoin A 42 (xJoin a76 5 (fun i => [q83, g91, q98, g106, q117, q136].getD i 0)) := ⟨_, rfl⟩
  have c0 : C 0 = h := by rw [hC, xJoin_lo (by omega), hA0]
  have c1 : C 1 = q30 := by rw [hC, xJoin_lo (by omega), hA1]
  have cs : ∀ q, q < 8 → ∀ r, r < 5 → xsh C q r = xsh A q r := fun q hq r hr => by rw [hC]; exact xJoin_lo (by omega)
  have cm : ∀ r, r < 5 → xmd C r = a76 r := fun r hr => by
    rw [hC]; show xJoin A 42 _ (42 + r) = _; rw [xJoin_hi, xJoin_lo hr]
  have ct : ∀ i, C (47 + i) = [q83, g91, q98, g106, q117, q136].getD i 0 := fun i => by
    rw [hC, show 47 + i = 42 + (5 + i) by omega, xJoin_hi, xJoin_hi]
  have c47 : C 47 = q83 := ct 0
  have c48 : C 48 = g91 := ct 1
  have c49 : C 49 = q98 := ct 2
  have c50 : C 50 = g106 := ct 3
  have c51 : C 51 = q117 := ct 4
  have c52 : C 52 = q136 := ct 5
  refine ⟨C, sf, c0, ?_⟩
  unfold xAt xObj
  rw [c0, c1, c47, c48, c49, c50, c51, c52, cm 0 (by omega), ea]
  refine ⟨x0, x1, fun k hk => ?_, fun k hk => ⟨(hpar k hk).2.cg (cs k hk), Or.inl nI_0⟩, hs76.cg cm, ⟨n83, n83c⟩, ⟨n98, n98c⟩, n117, n136⟩
  rw [cs k hk 0 (by omega)]
  exact (hpar k hk).1
