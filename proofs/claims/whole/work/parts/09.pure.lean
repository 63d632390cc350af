/-! WHAT THE METHODS DO, as functions -/
theorem gx_inc (a : Nat) : nI a + Int32.ofInt 1 = nI (a + 1) := nI_1 a
theorem nx_xor (a b : Nat) : nI a ^^^ nI b = nI (a ^^^ b) := by
  apply Int32.toBitVec_inj.1
  show BitVec.ofNat 32 a ^^^ BitVec.ofNat 32 b = BitVec.ofNat 32 (a ^^^ b)
  apply BitVec.eq_of_getLsbD_eq
  intro i hi
  simp [hi]
theorem nx_or (a b : Nat) : nI a ||| nI b = nI (a ||| b) := by
  apply Int32.toBitVec_inj.1
  show BitVec.ofNat 32 a ||| BitVec.ofNat 32 b = BitVec.ofNat 32 (a ||| b)
  apply BitVec.eq_of_getLsbD_eq
  intro i hi
  simp [hi]
theorem lr_op_xor {i : Nat} (h : i < 10) : i ^^^ 1 = lr_op i := by
  have : ∀ j, j < 10 → j ^^^ 1 = lr_op j := by decide
  exact this i h
theorem nx_op {i : Nat} (h : i < 10) : nI i ^^^ nI 1 = nI (lr_op i) := by rw [nx_xor, lr_op_xor h]
def lr_half (f : Nat → Int64) (n i : Nat) : Int64 := if f (i * n + i) = lr_E then lr_E else f (i * n + i) / 2
def lr_store (f : Nat → Int64) (n i j : Nat) (c : Int64) : Nat → Int64 := vp_updL (vp_updL f (i * n + j) c) (j * n + i) c
def lr_min (x y : Int64) : Int64 := if y < x then y else x
def lr_max (x y : Int64) : Int64 := if y < x then x else y
def lr_lower (f : Nat → Int64) (n i j : Nat) (c : Int64) : Nat → Int64 := lr_store f n i j (lr_min (f (i * n + j)) c)
def lr_fill (f : Nat → Int64) (N : Nat) (c : Int64) : Nat → Int64 := lr_it (fun i f => vp_updL f i c) N f
def lr_opps (f : Nat → Int64) (n : Nat) (c : Int64) : Nat → Int64 := lr_it (fun i f => vp_updL f (i * n + lr_op i) c) n f
def lr_plus (c d : Int64) : Int64 := if c = lr_E ∨ d = lr_E then lr_E else c + d
theorem lr_op_lt' {i n : Nat} (he : n % 2 = 0) (h : i < n) : lr_op i < n := by
  unfold lr_op; split <;> omega
/-- the place of a term; the term at a place -/
def lr_pl (x : Int32) : Nat := if 0 < x.toInt then (2 * (x.toInt - 1)).toNat else (2 * (-x.toInt - 1) + 1).toNat
def lr_sm (x : Int32) : Prop := -1000 ≤ x.toInt ∧ x.toInt ≤ 1000
theorem lr_i32 {x y : Int32} (h : x.toInt = y.toInt) : x = y := Int32.toInt_inj.mp h
theorem lr_addI {x y : Int32} (h1 : -2147483648 ≤ x.toInt + y.toInt) (h2 : x.toInt + y.toInt < 2147483648) : (x + y).toInt = x.toInt + y.toInt := by
  rw [Int32.toInt_add]; exact Int.bmod_eq_of_le_mul_two (by omega) (by omega)
theorem lr_subI {x y : Int32} (h1 : -2147483648 ≤ x.toInt - y.toInt) (h2 : x.toInt - y.toInt < 2147483648) : (x - y).toInt = x.toInt - y.toInt := by
  rw [Int32.toInt_sub]; exact Int.bmod_eq_of_le_mul_two (by omega) (by omega)
theorem lr_mulI {x y : Int32} (h1 : -2147483648 ≤ x.toInt * y.toInt) (h2 : x.toInt * y.toInt < 2147483648) : (x * y).toInt = x.toInt * y.toInt := by
  rw [Int32.toInt_mul]; exact Int.bmod_eq_of_le_mul_two (by omega) (by omega)
theorem lr_negI {x : Int32} (h1 : -2147483648 < x.toInt) : (-x).toInt = -x.toInt := by
  have := Int32.toInt_lt x
  rw [Int32.toInt_neg]; exact Int.bmod_eq_of_le_mul_two (by omega) (by omega)
theorem lr_pl_pos {x : Int32} (h : lr_sm x) (h0 : 0 < x) : nI 2 * (x - nI 1) = nI (lr_pl x) := by
  have h1 : 0 < x.toInt := by simpa using Int32.lt_iff_toInt_lt.mp h0
  obtain ⟨a, b⟩ := h
  have e1 : (nI 1).toInt = 1 := by decide
  have e2 : (nI 2).toInt = 2 := by decide
  have e3 : (x - nI 1).toInt = x.toInt - 1 := by rw [lr_subI (by omega) (by omega), e1]
  apply lr_i32
  rw [lr_mulI (by rw [e2, e3]; omega) (by rw [e2, e3]; omega), e2, e3, nI_toInt (by unfold lr_pl; rw [if_pos h1]; omega)]
  unfold lr_pl; rw [if_pos h1]; omega
theorem lr_pl_neg {x : Int32} (h : lr_sm x) (hz : ¬ x = 0) (h0 : x ≤ 0) : nI 2 * (-x - nI 1) + nI 1 = nI (lr_pl x) := by
  have h1 : x.toInt ≤ 0 := by simpa using Int32.le_iff_toInt_le.mp h0
  have h3 : x.toInt ≠ 0 := fun q => hz (lr_i32 (by rw [q]; decide))
  obtain ⟨a, b⟩ := h
  have e1 : (nI 1).toInt = 1 := by decide
  have e2 : (nI 2).toInt = 2 := by decide
  have e0 : (-x).toInt = -x.toInt := lr_negI (by omega)
  have e3 : (-x - nI 1).toInt = -x.toInt - 1 := by rw [lr_subI (by omega) (by omega), e1, e0]
  have e4 : (nI 2 * (-x - nI 1)).toInt = 2 * (-x.toInt - 1) := by rw [lr_mulI (by rw [e2, e3]; omega) (by rw [e2, e3]; omega), e2, e3]
  apply lr_i32
  rw [lr_addI (by rw [e4, e1]; omega) (by rw [e4, e1]; omega), e4, e1, nI_toInt (by unfold lr_pl; rw [if_neg (by omega)]; omega)]
  unfold lr_pl; rw [if_neg (by omega)]; omega
def lr_ofT (f : Nat → Int64) (n : Nat) (x y : Int32) : Int64 := if x = 0 then lr_half f n (lr_pl y) else if y = 0 then lr_half f n (lr_pl x) else f (lr_pl x * n + lr_pl y)
/-- chains through k -/
def lr_chJ (n k i j : Nat) (f : Nat → Int64) (c : Int64) : Nat → Int64 := if f (lr_op k * n + j) = lr_E then f else if f (i * n + j) ≤ c + f (lr_op k * n + j) then f else vp_updL f (i * n + j) (c + f (lr_op k * n + j))
def lr_chI (n k i : Nat) (f : Nat → Int64) : Nat → Int64 := if f (i * n + k) = lr_E then f else lr_it (fun j g => lr_chJ n k i j g (f (i * n + k))) n f
def lr_chain (f : Nat → Int64) (n k : Nat) : Nat → Int64 := lr_it (fun i f => lr_chI n k i f) n f
def lr_oppNeg (f : Nat → Int64) (n : Nat) : Prop := ∃ i, i < n ∧ f (i * n + lr_op i) < 0
/-- floorDiv as the JDK does it -/
def lr_fd (x y : Int64) : Int64 := if 0 ≤ x ^^^ y then x / y else if x / y * y = x then x / y else x / y - 1
def lr_evenB (n i : Nat) (f : Nat → Int64) : Nat → Int64 := if f (i * n + i) = lr_E then f else lr_store f n i i (2 * lr_fd (f (i * n + i)) 2)
def lr_even (f : Nat → Int64) (n : Nat) : Nat → Int64 := lr_it (fun i f => lr_evenB n i f) n f
def lr_twNeg (f : Nat → Int64) (n : Nat) : Prop := ∃ i, i < n ∧ lr_plus (f (i * n + i)) (f (lr_op i * n + lr_op i)) < 0
def lr_halves (f : Nat → Int64) (n : Nat) : Nat → Int64 := lr_it (fun i f => lr_it (fun t f => lr_lower f n i (i + 1 + t) (lr_plus (lr_half f n i) (lr_half f n (i + 1 + t)))) (n - (i + 1)) f) n f
def lr_count (f : Nat → Int64) (n : Nat) : Nat := lr_it (fun i a => lr_it (fun t a => a + (if f (i * n + (i + t)) = lr_E then 0 else 1)) (n - i) a) n 0
def lr_cell (f : Nat → Int64) (n i j : Nat) : Int64 := if i = j then lr_half f n i else f (i * n + j)
def lr_far (c : Int64) : Prop := c ≠ lr_E ∧ (1000000000000000 < c ∨ c < -1000000000000000)
/-- closing, as Table does it: what is left, and whether there is a point -/
def lr_cl1 (f : Nat → Int64) (n : Nat) : Nat → Nat → Int64
  | 0 => lr_opps f n 0
  | k + 1 => lr_chain (lr_cl1 f n k) n k
def lr_copy (f g : Nat → Int64) (N : Nat) : Nat → Int64 := va_cpy f g 0 0 N
section GC
variable {p : Program} {l : Launch} {e : Env} {R : Room} {s : State} {m : MethodId} {args : Array Value} {below : List Frame} {meth : Method} {c : Code} {H H0 : Heap} {locs : List Loc} {cells slots : Nat} {Q : State → Prop}
variable {D : va_G} {cl : List vw_C} {tys : List (ClassId × FieldType)} {A : Nat → Prop} {ws : va_W} {a : Nat} {pc : Nat} {ls : Array Slot} {rest : List Value} {cc : ByteArray}
theorem g_copyl (hx : p.tables.exec = Jvm.exec) (hb : c.code = cc) (hml : c.maxLocals = ls.size) {own : String} {index : Nat} (hown : s.vm.findClass own = some m.cls) (hlink : (Cond.methodLink own index arraycopyName).before args s = true) (hnat : (Cond.native arraycopyName).before args s = true) (hstat : (Cond.static arraycopyName).before args s = true) (hini : (Cond.initialized "java/lang/System").before args s = true)
    (hK : va_K D cl tys s) (hP : va_P D cl ws H) (hD : va_D A ws) (hS : va_S A H0 H locs) {q0 q1 t0 : Nat} {a0 : Nat} {cA : ClassId} {n0 n1 : Nat} {f g : Nat → Int64} (ha0 : ws[q0]? = some (a0, .inl (cA, n0, .inr (.inl f)))) (ha1 : ws[q1]? = some (a, .inl (cA, n1, .inr (.inl g)))) (ht : tys[t0]? = some (cA, .long))
    {N : Nat} (h0 : N ≤ n0) (h1 : N ≤ n1) (hN : N < 2 ^ 31) (hframes : 1 ≤ R.frames) (hlocals : (rest.map fun v => v.category).sum + (nativeFrameWords "java/lang/System" "arraycopy" 5 + 11) ≤ R.locals) (hdg : decode cc pc = .ok (.invokestatic index, 3))
    (kk : ∀ (w : va_W) (H1 : Heap) (locs1 : List Loc), w[q1]? = some (a, .inl (cA, n1, .inr (.inl (lr_copy f g N)))) → gF q1 (q1 + 1) ws w → va_P D cl w H1 → va_D A w → va_S A H0 H1 locs1 → W p l e R s m args below meth c H1 locs1 cells slots Q (F0 m (pc + 3) ls rest)) : W p l e R s m args below meth c H locs cells slots Q (F0 m pc ls (.int (nI N) :: .int (nI 0) :: .ref a :: .int (nI 0) :: .ref a0 :: rest)) := by
  have e0 : (nI 0).toNatClampNeg = 0 := by decide
  have eN : (nI N).toNatClampNeg = N := nI_clamp hN
  refine va_copyl hx hb hml hown hlink hnat hstat hini hK hP hD hS q0 q1 t0 t0 ha0 ha1 ht ht rfl (by decide) (by decide) (nI_pos hN) (by rw [e0, eN]; omega) (by rw [e0, eN]; omega) (fun i hi => rfl) hframes hlocals hdg (fun H1 locs1 h1 h2 h3 => ?_)
  rw [e0, eN] at h1 h2
  exact kk _ H1 locs1 (gw_eq ha1) gF.set h1 h2 h3
end GC
