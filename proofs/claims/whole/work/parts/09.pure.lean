/-! WHAT THE METHODS DO, as functions -/
theorem gx_inc (a : Nat) : nI a + Int32.ofInt 1 = nI (a + 1) := nI_1 a
theorem nx_xor (a b : Nat) : nI a ^^^ nI b = nI (a ^^^ b) := by
  apply Int32.toBitVec_inj.1
  show BitVec.ofNat 32 a ^^^ BitVec.ofNat 32 b = BitVec.ofNat 32 (a ^^^ b)
  apply BitVec.eq_of_getLsbD_eq
  intro i hi
  simp [hi]
theorem nx_or (a b : Nat) : nI a ||| nI b = nI (a ||| b) := by
  apply Int32.toBitVec_inj.1
  show BitVec.ofNat 32 a ||| BitVec.ofNat 32 b = BitVec.ofNat 32 (a ||| b)
  apply BitVec.eq_of_getLsbD_eq
  intro i hi
  simp [hi]
theorem lr_op_xor {i : Nat} (h : i < 10) : i ^^^ 1 = lr_op i := by
  have : ∀ j, j < 10 → j ^^^ 1 = lr_op j := by decide
  exact this i h
theorem nx_op {i : Nat} (h : i < 10) : nI i ^^^ nI 1 = nI (lr_op i) := by rw [nx_xor, lr_op_xor h]
def lr_half (f : Nat → Int64) (n i : Nat) : Int64 := if f (i * n + i) = lr_E then lr_E else f (i * n + i) / 2
def lr_store (f : Nat → Int64) (n i j : Nat) (c : Int64) : Nat → Int64 := vp_updL (vp_updL f (i * n + j) c) (j * n + i) c
def lr_min (x y : Int64) : Int64 := if y < x then y else x
def lr_max (x y : Int64) : Int64 := if x < y then y else x
def lr_lower (f : Nat → Int64) (n i j : Nat) (c : Int64) : Nat → Int64 := lr_store f n i j (lr_min (f (i * n + j)) c)
def lr_fill (f : Nat → Int64) (N : Nat) (c : Int64) : Nat → Int64 := lr_it (fun i f => vp_updL f i c) N f
def lr_opps (f : Nat → Int64) (n : Nat) (c : Int64) : Nat → Int64 := lr_it (fun i f => vp_updL f (i * n + lr_op i) c) n f
def lr_plus (c d : Int64) : Int64 := if c = lr_E ∨ d = lr_E then lr_E else c + d
theorem lr_op_lt' {i n : Nat} (he : n % 2 = 0) (h : i < n) : lr_op i < n := by
  unfold lr_op; split <;> omega
