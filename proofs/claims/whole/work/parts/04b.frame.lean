/-! FRAMES BY PLACES: outside the places a .. b - 1 the list is as it was -/
def gF (a b : Nat) (ws w : va_W) : Prop := (∀ q, q < a ∨ b ≤ q → w[q]? = ws[q]?) ∧ w.length = ws.length
theorem gF.rf {a b : Nat} {ws : va_W} : gF a b ws ws := ⟨fun _ _ => rfl, rfl⟩
theorem gF.at {a b q : Nat} {ws w : va_W} {z : Nat × va_E} (h : gF a b ws w) (hq : ws[q]? = some z) (ho : q < a ∨ b ≤ q) : w[q]? = some z := (h.1 q ho).trans hq
theorem gF.in {a b a' b' : Nat} {ws w w' : va_W} (h : gF a b ws w) (k : gF a' b' w w') (h1 : a ≤ a') (h2 : b' ≤ b) : gF a b ws w' :=
  ⟨fun q hq => (k.1 q (by omega)).trans (h.1 q hq), k.2.trans h.2⟩
theorem gF.set {p : Nat} {ws : va_W} {z : Nat × va_E} : gF p (p + 1) ws (ws.set p z) := ⟨fun q hq => gw_neE (by omega), by simp⟩
theorem gF.wide {a b a' b' : Nat} {ws w : va_W} (k : gF a' b' ws w) (h1 : a ≤ a') (h2 : b' ≤ b) : gF a b ws w := gF.rf.in k h1 h2
/-- a loop's turns -/
def lr_it {α : Type} (g : Nat → α → α) : Nat → α → α
  | 0, a => a
  | k + 1, a => g k (lr_it g k a)
theorem lr_ix {n i j : Nat} (hi : i < n) (hj : j < n) : i * n + j < n * n := by
  have : (i + 1) * n ≤ n * n := Nat.mul_le_mul_right n hi
  rw [Nat.succ_mul] at this
  omega
theorem lr_sq {n : Nat} (h : n ≤ 10) : n * n < 2 ^ 31 := Nat.lt_of_le_of_lt (Nat.mul_le_mul h h) (by decide)
theorem lr_sq1 {n : Nat} (h : n ≤ 10) : n * n ≤ 100 := Nat.mul_le_mul h h
section GA
variable {p : Program} {l : Launch} {e : Env} {R : Room} {s : State} {m : MethodId} {args : Array Value} {below : List Frame} {meth : Method} {c : Code} {H H0 : Heap} {locs : List Loc} {cells slots : Nat} {Q : State → Prop}
variable {D : va_G} {cl : List vw_C} {tys : List (ClassId × FieldType)} {A : Nat → Prop} {ws : va_W} {a mc ms : Nat} {pc : Nat} {ls : Array Slot} {rest st0 : List Value} {cc : ByteArray} {av : Array Value}
theorem g_lald (hx : p.tables.exec = Jvm.exec) (hb : c.code = cc) (hK : va_K D cl tys s) (hP : va_P D cl ws H) {q0 t0 : Nat} {cA : ClassId} {n : Nat} {f : Nat → Int64} (ha : ws[q0]? = some (a, .inl (cA, n, .inr (.inl f)))) (ht : tys[t0]? = some (cA, .long)) {k : Nat} (hk : k < n) (hn : n < 2 ^ 31) (hdg : decode cc pc = .ok (.laload, 1))
    (kk : W p l e R s m args below meth c H locs cells slots Q (F0 m (pc + 1) ls (.long (f k) :: rest))) : W p l e R s m args below meth c H locs cells slots Q (F0 m pc ls (.int (nI k) :: .ref a :: rest)) := by
  refine va_lald hx hb hK hP q0 t0 ha ht (vp_in_nI hk hn) hdg ?_
  rw [nI_clamp (by omega)]
  exact kk
theorem g_iald (hx : p.tables.exec = Jvm.exec) (hb : c.code = cc) (hK : va_K D cl tys s) (hP : va_P D cl ws H) {q0 t0 : Nat} {cA : ClassId} {n : Nat} {f : Nat → Int32} (ha : ws[q0]? = some (a, .inl (cA, n, .inl f))) (ht : tys[t0]? = some (cA, .int)) {k : Nat} (hk : k < n) (hn : n < 2 ^ 31) (hdg : decode cc pc = .ok (.iaload, 1))
    (kk : W p l e R s m args below meth c H locs cells slots Q (F0 m (pc + 1) ls (.int (f k) :: rest))) : W p l e R s m args below meth c H locs cells slots Q (F0 m pc ls (.int (nI k) :: .ref a :: rest)) := by
  refine va_iald hx hb hK hP q0 t0 ha ht (vp_in_nI hk hn) hdg ?_
  rw [nI_clamp (by omega)]
  exact kk
theorem g_zald (hx : p.tables.exec = Jvm.exec) (hb : c.code = cc) (hK : va_K D cl tys s) (hP : va_P D cl ws H) {q0 t0 : Nat} {cA : ClassId} {n : Nat} {f : Nat → Int32} (ha : ws[q0]? = some (a, .inl (cA, n, .inl f))) (ht : tys[t0]? = some (cA, .boolean)) {k : Nat} (hk : k < n) (hn : n < 2 ^ 31) (hdg : decode cc pc = .ok (.baload, 1))
    (kk : W p l e R s m args below meth c H locs cells slots Q (F0 m (pc + 1) ls (.int (f k) :: rest))) : W p l e R s m args below meth c H locs cells slots Q (F0 m pc ls (.int (nI k) :: .ref a :: rest)) := by
  refine va_zald hx hb hK hP q0 t0 ha ht (vp_in_nI hk hn) hdg ?_
  rw [nI_clamp (by omega)]
  exact kk
theorem g_last (hx : p.tables.exec = Jvm.exec) (hb : c.code = cc) (hK : va_K D cl tys s) (hP : va_P D cl ws H) (hD : va_D A ws) (hS : va_S A H0 H locs) {q0 t0 : Nat} {cA : ClassId} {n : Nat} {f : Nat → Int64} (ha : ws[q0]? = some (a, .inl (cA, n, .inr (.inl f)))) (ht : tys[t0]? = some (cA, .long)) {k : Nat} {x : Int64} (hk : k < n) (hn : n < 2 ^ 31) (hdg : decode cc pc = .ok (.lastore, 1))
    (kk : ∀ (w : va_W) (H1 : Heap) (locs1 : List Loc), w[q0]? = some (a, .inl (cA, n, .inr (.inl (vp_updL f k x)))) → gF q0 (q0 + 1) ws w → va_P D cl w H1 → va_D A w → va_S A H0 H1 locs1 → W p l e R s m args below meth c H1 locs1 cells slots Q (F0 m (pc + 1) ls rest)) : W p l e R s m args below meth c H locs cells slots Q (F0 m pc ls (.long x :: .int (nI k) :: .ref a :: rest)) := by
  refine va_last hx hb hK hP hD hS q0 t0 ha ht (vp_in_nI hk hn) hdg (fun H1 locs1 h1 h2 h3 => ?_)
  rw [nI_clamp (by omega)] at h1 h2
  exact kk _ H1 locs1 (gw_eq ha) gF.set h1 h2 h3
theorem g_iast (hx : p.tables.exec = Jvm.exec) (hb : c.code = cc) (hK : va_K D cl tys s) (hP : va_P D cl ws H) (hD : va_D A ws) (hS : va_S A H0 H locs) {q0 t0 : Nat} {cA : ClassId} {n : Nat} {f : Nat → Int32} (ha : ws[q0]? = some (a, .inl (cA, n, .inl f))) (ht : tys[t0]? = some (cA, .int)) {k : Nat} {x : Int32} (hk : k < n) (hn : n < 2 ^ 31) (hdg : decode cc pc = .ok (.iastore, 1))
    (kk : ∀ (w : va_W) (H1 : Heap) (locs1 : List Loc), w[q0]? = some (a, .inl (cA, n, .inl (upd f k x))) → gF q0 (q0 + 1) ws w → va_P D cl w H1 → va_D A w → va_S A H0 H1 locs1 → W p l e R s m args below meth c H1 locs1 cells slots Q (F0 m (pc + 1) ls rest)) : W p l e R s m args below meth c H locs cells slots Q (F0 m pc ls (.int x :: .int (nI k) :: .ref a :: rest)) := by
  refine va_iast hx hb hK hP hD hS q0 t0 ha ht (vp_in_nI hk hn) hdg (fun H1 locs1 h1 h2 h3 => ?_)
  rw [nI_clamp (by omega)] at h1 h2
  exact kk _ H1 locs1 (gw_eq ha) gF.set h1 h2 h3
theorem g_zast (hx : p.tables.exec = Jvm.exec) (hb : c.code = cc) (hK : va_K D cl tys s) (hP : va_P D cl ws H) (hD : va_D A ws) (hS : va_S A H0 H locs) {q0 t0 : Nat} {cA : ClassId} {n : Nat} {f : Nat → Int32} (ha : ws[q0]? = some (a, .inl (cA, n, .inl f))) (ht : tys[t0]? = some (cA, .boolean)) {k : Nat} {x : Int32} (hk : k < n) (hn : n < 2 ^ 31) (hx0 : x = 0 ∨ x = 1) (hdg : decode cc pc = .ok (.bastore, 1))
    (kk : ∀ (w : va_W) (H1 : Heap) (locs1 : List Loc), w[q0]? = some (a, .inl (cA, n, .inl (upd f k x))) → gF q0 (q0 + 1) ws w → va_P D cl w H1 → va_D A w → va_S A H0 H1 locs1 → W p l e R s m args below meth c H1 locs1 cells slots Q (F0 m (pc + 1) ls rest)) : W p l e R s m args below meth c H locs cells slots Q (F0 m pc ls (.int x :: .int (nI k) :: .ref a :: rest)) := by
  have hz : vp_nar .boolean x = x := by rcases hx0 with rfl | rfl <;> decide
  refine va_zast hx hb hK hP hD hS q0 t0 ha ht (vp_in_nI hk hn) hdg (fun H1 locs1 h1 h2 h3 => ?_)
  rw [nI_clamp (by omega), hz] at h1 h2
  exact kk _ H1 locs1 (gw_eq ha) gF.set h1 h2 h3
/-- calls that leave the world -/
theorem gw_ci0 {post : Int32 → Prop} (hr : va_Run p l e R s m args below meth c H locs cells slots mc ms (F0 m pc ls st0) rest (va_Qi (fun r w => post r ∧ w = ws) (gw_B D cl tys ws H.size) (va_A ws H.size) av) (va_A ws H.size)) (hD : va_D A ws) (hS : va_S A H0 H locs) (hA : ∀ q, H0.size ≤ q → A q)
    (kk : ∀ (r : Int32) (H1 : Heap) (locs1 : List Loc), post r → va_P D cl ws H1 → va_D A ws → va_S A H0 H1 locs1 → W p l e R s m args below meth c H1 locs1 (cells + mc) (slots + ms) Q (F0 m (pc + 3) ls (.int r :: rest))) : W p l e R s m args below meth c H locs cells slots Q (F0 m pc ls st0) :=
  gw_ci hr hD hS hA (fun r w H1 locs1 hw hP hD hS => by obtain ⟨h1, rfl⟩ := hw; exact kk r H1 locs1 h1 hP hD hS)
theorem gw_cl0 {post : Int64 → Prop} (hr : va_Run p l e R s m args below meth c H locs cells slots mc ms (F0 m pc ls st0) rest (va_Ql (fun r w => post r ∧ w = ws) (gw_B D cl tys ws H.size) (va_A ws H.size) av) (va_A ws H.size)) (hD : va_D A ws) (hS : va_S A H0 H locs) (hA : ∀ q, H0.size ≤ q → A q)
    (kk : ∀ (r : Int64) (H1 : Heap) (locs1 : List Loc), post r → va_P D cl ws H1 → va_D A ws → va_S A H0 H1 locs1 → W p l e R s m args below meth c H1 locs1 (cells + mc) (slots + ms) Q (F0 m (pc + 3) ls (.long r :: rest))) : W p l e R s m args below meth c H locs cells slots Q (F0 m pc ls st0) :=
  gw_cl hr hD hS hA (fun r w H1 locs1 hw hP hD hS => by obtain ⟨h1, rfl⟩ := hw; exact kk r H1 locs1 h1 hP hD hS)
end GA
/-- a table: the object and its cells -/
def tbAt (cJ : ClassId) (ws : va_W) (j h g n : Nat) (f : Nat → Int64) : Prop := ws[j]? = some (h, .inr (0, [.int (nI n), .ref g])) ∧ ws[j + 1]? = some (g, .inl (cJ, n * n, .inr (.inl f)))
theorem tbAt.kept {cJ : ClassId} {ws w : va_W} {j h g n a b : Nat} {f : Nat → Int64} (ht : tbAt cJ ws j h g n f) (hf : gF a b ws w) (ho : j + 2 ≤ a ∨ b ≤ j) : tbAt cJ w j h g n f := ⟨hf.at ht.1 (by omega), hf.at ht.2 (by omega)⟩
