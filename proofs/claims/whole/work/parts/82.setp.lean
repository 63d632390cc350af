/-! set, forget: the new bound of two terms is the old one of what they are made of -/
def lp_B (W : lr_M) (s t : Option Nat) : Option Int := match s, t with
  | some i, some j => W i j
  | some i, none => lr_hf (W i i)
  | none, some j => lr_hf (W j j)
  | none, none => some 0
def lp_P (W : lr_M) (σ : Nat → Option Nat) (δ : Nat → Int) : lr_M := fun i j => lr_ad (lp_B W (σ i) (σ j)) (some (δ i + δ j))
def lp_o (s : Option Nat) : Option Nat := match s with
  | some i => some (lr_op i)
  | none => none
def lp_ok (m : Nat) (σ : Nat → Option Nat) (δ : Nat → Int) : Prop := (∀ i, i < m → ∀ s, σ i = some s → s < m) ∧ (∀ i, i < m → σ (lr_op i) = lp_o (σ i)) ∧ (∀ i, i < m → δ (lr_op i) = -δ i)
theorem lp_sh {N : Nat} {W : lr_M} (hW : lr_Cl N W) {p i : Nat} (hp : p < 2 * N) (hi : i < 2 * N) : lr_le (lr_hf (W i i)) (lr_ad (W i p) (lr_hf (W (lr_op p) (lr_op p)))) := by
  have := lr_hf_tri hW.1 hW.2.2.1 hi (lr_op_lt hp)
  rw [lr_op_op, hW.1 p hp i hi] at this
  rw [lr_ad_comm]; exact this
theorem lp_hh {N : Nat} {W : lr_M} (hW : lr_Cl N W) {i : Nat} (hi : i < 2 * N) : lr_le (some 0) (lr_ad (lr_hf (W i i)) (lr_hf (W (lr_op i) (lr_op i)))) := by
  have ho := lr_op_lt hi
  have c := hW.2.2.2.2 i hi _ ho
  rw [hW.2.1 i hi] at c
  have ei := hW.2.2.2.1 i hi
  have eo := hW.2.2.2.1 _ ho
  generalize W i i = y at *
  generalize W (lr_op i) (lr_op i) = z at *
  cases y <;> cases z <;> simp_all [lr_le, lr_hf, lr_ad, lr_db]; omega
theorem lp_h2 {N : Nat} {W : lr_M} (hW : lr_Cl N W) {i j : Nat} (hi : i < 2 * N) (hj : j < 2 * N) : lr_le (W i j) (lr_ad (lr_hf (W i i)) (lr_hf (W j j))) := by
  have c := hW.2.2.2.2 i hi j hj
  have ei := hW.2.2.2.1 i hi
  have ej := hW.2.2.2.1 j hj
  generalize W i j = x at *
  generalize W i i = y at *
  generalize W j j = z at *
  cases x <;> cases y <;> cases z <;> simp_all [lr_le, lr_hf, lr_ad, lr_db]; omega
theorem lp_B_tri {N : Nat} {W : lr_M} (hW : lr_Cl N W) {s t p : Option Nat} (hs : ∀ x, s = some x → x < 2 * N) (ht : ∀ x, t = some x → x < 2 * N) (hp : ∀ x, p = some x → x < 2 * N) : lr_le (lp_B W s t) (lr_ad (lp_B W s p) (lp_B W (lp_o p) t)) := by
  cases p with
  | none =>
    cases s with
    | none =>
      cases t with
      | none => simp [lp_B, lp_o, lr_ad, lr_le]
      | some j => show lr_le (lr_hf (W j j)) (lr_ad (some 0) (lr_hf (W j j))); cases lr_hf (W j j) <;> simp [lr_ad, lr_le]
    | some i =>
      cases t with
      | none => show lr_le (lr_hf (W i i)) (lr_ad (lr_hf (W i i)) (some 0)); cases lr_hf (W i i) <;> simp [lr_ad, lr_le]
      | some j => exact lp_h2 hW (hs i rfl) (ht j rfl)
  | some p =>
    have hp := hp p rfl
    have ho := lr_op_lt hp
    cases s with
    | none =>
      cases t with
      | none => exact lp_hh hW hp
      | some j =>
        show lr_le (lr_hf (W j j)) (lr_ad (lr_hf (W p p)) (W (lr_op p) j))
        exact lr_hf_tri hW.1 hW.2.2.1 (ht j rfl) hp
    | some i =>
      cases t with
      | none => exact lp_sh hW hp (hs i rfl)
      | some j => exact hW.2.2.1 p hp i (hs i rfl) j (ht j rfl)
theorem lp_cl {N : Nat} {W : lr_M} {σ : Nat → Option Nat} {δ : Nat → Int} (hW : lr_Cl N W) (h : lp_ok (2 * N) σ δ) : lr_Cl N (lp_P W σ δ) := by
  obtain ⟨h1, h2, h3⟩ := h
  refine ⟨fun i hi j hj => ?_, fun i hi => ?_, fun p hp i hi j hj => ?_, fun i hi c hc => ?_, fun i hi j hj => ?_⟩
  · unfold lp_P
    rw [Int.add_comm]
    congr 1
    have a := h1 i hi
    have b := h1 j hj
    cases e : σ i with
    | none => cases σ j <;> rfl
    | some s =>
      cases e2 : σ j with
      | none => rfl
      | some t => exact hW.1 s (a s e) t (b t e2)
  · unfold lp_P
    have a := h1 i hi
    rw [h2 i hi, h3 i hi]
    cases e : σ i with
    | none => simp [lp_B, lp_o, lr_ad]; omega
    | some s =>
      show lr_ad (W s (lr_op s)) _ = _
      rw [hW.2.1 s (a s e)]; simp [lr_ad]; omega
  · have t := lp_B_tri hW (h1 i hi) (h1 j hj) (h1 p hp)
    unfold lp_P
    rw [h2 p hp, h3 p hp]
    generalize lp_B W (σ i) (σ j) = x at *
    generalize lp_B W (σ i) (σ p) = y at *
    generalize lp_B W (lp_o (σ p)) (σ j) = z at *
    cases x <;> cases y <;> cases z <;> simp_all [lr_le, lr_ad]; omega
  · unfold lp_P at hc
    have a := h1 i hi
    cases e : σ i with
    | none => rw [e] at hc; simp [lp_B, lr_ad] at hc; omega
    | some s =>
      rw [e] at hc
      have hc : lr_ad (W s s) (some (δ i + δ i)) = some c := hc
      have ev := hW.2.2.2.1 s (a s e)
      cases w : W s s with
      | none => rw [w] at hc; simp [lr_ad] at hc
      | some x =>
        rw [w] at hc
        have := ev x w
        simp [lr_ad] at hc
        omega
  · unfold lp_P
    have a := h1 i hi
    have b := h1 j hj
    have key : lr_le (lr_db (lp_B W (σ i) (σ j))) (lr_ad (lp_B W (σ i) (σ i)) (lp_B W (σ j) (σ j))) := by
      cases e : σ i with
      | none =>
        cases e2 : σ j with
        | none => simp [lp_B, lr_db, lr_ad, lr_le]
        | some t =>
          show lr_le (lr_db (lr_hf (W t t))) (lr_ad (some 0) (W t t))
          cases W t t <;> simp [lr_hf, lr_db, lr_ad, lr_le]; omega
      | some s =>
        cases e2 : σ j with
        | none =>
          show lr_le (lr_db (lr_hf (W s s))) (lr_ad (W s s) (some 0))
          cases W s s <;> simp [lr_hf, lr_db, lr_ad, lr_le]; omega
        | some t => exact hW.2.2.2.2 s (a s e) t (b t e2)
    generalize lp_B W (σ i) (σ j) = x at *
    generalize lp_B W (σ i) (σ i) = y at *
    generalize lp_B W (σ j) (σ j) = z at *
    cases x <;> cases y <;> cases z <;> simp_all [lr_le, lr_ad, lr_db]; omega
/-- what lies below the rows of an assignment lies below the new bounds -/
theorem lp_gr {N : Nat} {W Y : lr_M} {σ : Nat → Option Nat} {δ : Nat → Int} (hW : lr_Cl N W) (h : lp_ok (2 * N) σ δ) (hY : lr_Cl N Y) (h1 : ∀ i, i < 2 * N → ∀ s, σ i = some s → lr_le (Y i (lr_op s)) (some (δ i))) (h2 : ∀ i, i < 2 * N → σ i = none → lr_le (Y i i) (some (2 * δ i))) (h3 : ∀ i, i < 2 * N → ∀ j, j < 2 * N → ∀ s t, σ i = some s → σ j = some t → lr_le (Y s t) (W s t)) : lr_LE (2 * N) Y (lp_P W σ δ) := by
  have ss : ∀ i, i < 2 * N → ∀ j, j < 2 * N → ∀ s t, σ i = some s → σ j = some t → lr_le (Y i j) (lr_ad (W s t) (some (δ i + δ j))) := fun i hi j hj s t es et => by
    have hs := h.1 i hi s es
    have ht := h.1 j hj t et
    have a1 := hY.2.2.1 (lr_op s) (lr_op_lt hs) i hi j hj
    rw [lr_op_op] at a1
    have a2 := hY.2.2.1 t ht s hs j hj
    have b1 := h1 i hi s es
    have b2 := h1 j hj t et
    rw [hY.1 j hj _ (lr_op_lt ht)] at b2
    have b3 := h3 i hi j hj s t es et
    refine lr_le_trans a1 (lr_le_trans (lr_ad_le b1 (lr_le_trans a2 (lr_ad_le b3 b2))) ?_)
    cases W s t <;> simp [lr_ad, lr_le]; omega
  intro i hi j hj
  unfold lp_P
  cases es : σ i with
  | some s =>
    cases et : σ j with
    | some t => exact ss i hi j hj s t es et
    | none =>
      have a := ss i hi i hi s s es es
      have b := h2 j hj et
      have c := hY.2.2.2.2 i hi j hj
      show lr_le (Y i j) (lr_ad (lr_hf (W s s)) (some (δ i + δ j)))
      have ev := hW.2.2.2.1 s (h.1 i hi s es)
      generalize Y i j = x at *
      generalize Y i i = y at *
      generalize Y j j = z at *
      generalize W s s = w at *
      cases w <;> cases x <;> cases y <;> cases z <;> simp_all [lr_le, lr_ad, lr_hf, lr_db]; omega
  | none =>
    cases et : σ j with
    | some t =>
      have a := ss j hj j hj t t et et
      have b := h2 i hi es
      have c := hY.2.2.2.2 i hi j hj
      show lr_le (Y i j) (lr_ad (lr_hf (W t t)) (some (δ i + δ j)))
      have ev := hW.2.2.2.1 t (h.1 j hj t et)
      generalize Y i j = x at *
      generalize Y i i = y at *
      generalize Y j j = z at *
      generalize W t t = w at *
      cases w <;> cases x <;> cases y <;> cases z <;> simp_all [lr_le, lr_ad, lr_hf, lr_db]; omega
    | none =>
      have a := h2 i hi es
      have b := h2 j hj et
      have c := hY.2.2.2.2 i hi j hj
      show lr_le (Y i j) (some (0 + (δ i + δ j)))
      generalize Y i j = x at *
      generalize Y i i = y at *
      generalize Y j j = z at *
      cases x <;> cases y <;> cases z <;> simp_all [lr_le, lr_ad, lr_db]; omega
/-- the assignment of z and v to the name k1 -/
def lp_s (k1 : Nat) (z : Int32) (i : Nat) : Option Nat := if lr_src i (nI k1) z = 0 then none else some (lr_pl (lr_src i (nI k1) z))
def lp_d (k1 : Nat) (v : Int64) (i : Nat) : Int := if i = 2 * (k1 - 1) then v.toInt else if i = 2 * (k1 - 1) + 1 then -v.toInt else 0
theorem lr_term_pl {i : Nat} (h : i < 10) : lr_pl (lr_term i) = i := by
  unfold lr_term
  by_cases w : i % 2 = 0
  · rw [if_pos w, lr_pl_nI (by omega) (by omega)]; omega
  · rw [if_neg w, lr_pl_mI (by omega) (by omega)]; omega
theorem lr_term_sm {i : Nat} (h : i < 10) : lr_sm (lr_term i) := (lr_term_tm (n := 10) h (Nat.le_refl _)).1
theorem lr_term_op {i : Nat} (h : i < 10) : lr_term (lr_op i) = -lr_term i := by
  have e := lr_pl_op (lr_term_sm h) (lm_term_nz (by omega))
  rw [lr_term_pl h] at e
  have ho : lr_op i < 10 := lr_op_lt (n := 5) h
  exact lr_pl_inj (lr_term_sm ho) (neg_small (lr_term_sm h)) (lm_term_nz (by omega)) (mz_nz (lm_term_nz (by omega))) (by rw [e, lr_term_pl ho])
theorem lr_term_x {i k : Nat} (h : i < 10) (h1 : 1 ≤ k) (h5 : k ≤ 5) : (lr_term i = nI k ↔ i = 2 * (k - 1)) ∧ (lr_term i = -nI k ↔ i = 2 * (k - 1) + 1) := by
  have sk := nI_small (a := k) (by omega)
  have nk := nI_nz (a := k) (by omega) (by omega)
  have mk := mI_nz (a := k) (by omega) (by omega)
  constructor
  · constructor
    · intro e
      have := congrArg lr_pl e
      rw [lr_term_pl h, lr_pl_nI (by omega) (by omega)] at this; exact this
    · intro e
      refine lr_pl_inj (lr_term_sm h) sk (lm_term_nz (by omega)) nk ?_
      rw [lr_term_pl h, lr_pl_nI (by omega) (by omega)]; exact e
  · constructor
    · intro e
      have := congrArg lr_pl e
      rw [lr_term_pl h, lr_pl_mI (by omega) (by omega)] at this; exact this
    · intro e
      refine lr_pl_inj (lr_term_sm h) (neg_small sk) (lm_term_nz (by omega)) mk ?_
      rw [lr_term_pl h, lr_pl_mI (by omega) (by omega)]; exact e
theorem lp_src {i k : Nat} {z : Int32} (h : i < 10) (h1 : 1 ≤ k) (h5 : k ≤ 5) : lr_src i (nI k) z = if i = 2 * (k - 1) then z else if i = 2 * (k - 1) + 1 then -z else lr_term i := by
  obtain ⟨a, b⟩ := lr_term_x h h1 h5
  unfold lr_src
  by_cases w : i = 2 * (k - 1)
  · rw [if_pos (a.mpr w), if_pos w]
  · rw [if_neg (fun e => w (a.mp e)), if_neg w]
    by_cases w2 : i = 2 * (k - 1) + 1
    · rw [if_pos (b.mpr w2), if_pos w2]
    · rw [if_neg (fun e => w2 (b.mp e)), if_neg w2]
theorem lp_add {i k : Nat} {v : Int64} (h : i < 10) (h1 : 1 ≤ k) (h5 : k ≤ 5) (hv : okG v) : (lr_add i (nI k) v).toInt = lp_d k v i ∧ -1000000000 ≤ lp_d k v i ∧ lp_d k v i ≤ 1000000000 := by
  obtain ⟨a, b⟩ := lr_term_x h h1 h5
  have t := hv.t
  unfold lr_add lp_d
  by_cases w : i = 2 * (k - 1)
  · rw [if_pos (a.mpr w), if_pos w]; exact ⟨rfl, t⟩
  · rw [if_neg (fun e => w (a.mp e)), if_neg w]
    by_cases w2 : i = 2 * (k - 1) + 1
    · rw [if_pos (b.mpr w2), if_pos w2, lz_neg (by omega)]; exact ⟨rfl, by omega⟩
    · rw [if_neg (fun e => w2 (b.mp e)), if_neg w2]; exact ⟨by decide, by omega⟩
theorem lr_neg0 {x : Int32} (h : -x = 0) : x = 0 := Classical.byContradiction fun q => mz_nz q h
theorem lp_okk {N k : Nat} {z : Int32} {v : Int64} (hN : N ≤ 5) (h1 : 1 ≤ k) (hk : k ≤ N) (hz : okT N z) : lp_ok (2 * N) (lp_s k z) (lp_d k v) := by
  have tz := hz.tm hN
  refine ⟨fun i hi s hs => ?_, fun i hi => ?_, fun i hi => ?_⟩
  · unfold lp_s at hs
    have := lr_src_tm (x := nI k) hi (by omega) (by omega) tz
    by_cases w : lr_src i (nI k) z = 0
    · rw [if_pos w] at hs; exact absurd hs (by simp)
    · rw [if_neg w] at hs; injection hs with hs; rw [← hs]; exact this.2 w
  · have hsr : lr_src (lr_op i) (nI k) z = -lr_src i (nI k) z := by
      have ho := lr_op_lt hi
      rw [lp_src (by omega) h1 (by omega), lp_src (by omega) h1 (by omega)]
      by_cases w : i = 2 * (k - 1)
      · have e : lr_op i = 2 * (k - 1) + 1 := by unfold lr_op; rw [if_pos (by omega)]; omega
        rw [e, if_neg (by omega), if_pos rfl, if_pos w]
      · rw [if_neg w]
        by_cases w2 : i = 2 * (k - 1) + 1
        · have e : lr_op i = 2 * (k - 1) := by unfold lr_op; rw [if_neg (by omega)]; omega
          rw [e, if_pos rfl, if_pos w2, lr_negneg]
        · have e1 : lr_op i ≠ 2 * (k - 1) := fun e => w2 (by
            have := congrArg lr_op e
            rw [lr_op_op] at this
            rw [this]; unfold lr_op; rw [if_pos (by omega)])
          have e2 : lr_op i ≠ 2 * (k - 1) + 1 := fun e => w (by
            have := congrArg lr_op e
            rw [lr_op_op] at this
            rw [this]; unfold lr_op; rw [if_neg (by omega)]; omega)
          rw [if_neg e1, if_neg e2, if_neg w2, lr_term_op (by omega)]
    have hsm := (lr_src_tm (x := nI k) hi (by omega) (by omega) tz).1
    unfold lp_s
    rw [hsr]
    by_cases w : lr_src i (nI k) z = 0
    · rw [if_pos w, if_pos (by rw [w]; decide)]; rfl
    · rw [if_neg w, if_neg (mz_nz w)]
      show some _ = some _
      rw [lr_pl_op hsm w]
  · unfold lp_d lr_op
    by_cases w : i % 2 = 0
    · rw [if_pos w]
      by_cases w2 : i = 2 * (k - 1)
      · rw [if_neg (by omega), if_pos (by omega), if_pos w2]
      · rw [if_neg (by omega), if_neg (by omega), if_neg w2, if_neg (by omega)]; omega
    · rw [if_neg w]
      by_cases w2 : i = 2 * (k - 1) + 1
      · rw [if_pos (by omega), if_neg (by omega), if_pos w2]; omega
      · rw [if_neg (by omega), if_neg (by omega), if_neg (by omega), if_neg w2]; omega
/-- the class's formula -/
theorem lp_gA {N k : Nat} {B : Nat → Int64} {z : Int32} {v : Int64} (hN : N ≤ 5) (h1 : 1 ≤ k) (hk : k ≤ N) (hz : okT N z) (hv : okG v) (hC : lr_Cl N (lz_T (2 * N) B)) (hn : lz_nf (2 * N) (lz_T (2 * N) B)) {i j : Nat} (hi : i < 2 * N) (hj : j < 2 * N) : lz_v (lr_gA B 0 (2 * N) (nI k) z v i j) = lp_P (lz_T (2 * N) B) (lp_s k z) (lp_d k v) i j ∧ lz_b 2000000002000000000 (lp_P (lz_T (2 * N) B) (lp_s k z) (lp_d k v) i j) := by
  have tz := hz.tm hN
  have ti := lr_src_tm (x := nI k) hi (by omega) (by omega) tz
  have tj := lr_src_tm (x := nI k) hj (by omega) (by omega) tz
  have hb := lz_nf_B hn lz_T_gd
  have hhalf : ∀ q, q < 2 * N → lz_v (lr_half B (2 * N) q) = lr_hf (lz_T (2 * N) B q q) := fun q hq => by
    unfold lr_half
    have e := hC.e2 q hq
    rw [lz_T_in hq hq] at e ⊢
    exact lz_half (lz_nf_v hn hq hq) (by omega) e
  have hg : lz_v (lr_gr B (2 * N) 0 (lr_src i (nI k) z) (lr_src j (nI k) z)) = lp_B (lz_T (2 * N) B) (lp_s k z i) (lp_s k z j) := by
    unfold lr_gr lp_s
    rw [if_pos rfl]
    by_cases w : lr_src i (nI k) z = -lr_src j (nI k) z
    · rw [if_pos w, lz_v0]
      by_cases w2 : lr_src j (nI k) z = 0
      · rw [if_pos w2, if_pos (by rw [w, w2]; decide)]; rfl
      · rw [if_neg w2, if_neg (by rw [w]; exact mz_nz w2), w, lr_pl_op tj.1 w2]
        show _ = lz_T (2 * N) B _ _
        rw [hC.1 _ (lr_op_lt (tj.2 w2)) _ (tj.2 w2), hC.2.1 _ (tj.2 w2)]
    · rw [if_neg w]
      unfold lr_ofT
      by_cases w1 : lr_src i (nI k) z = 0
      · have w2 : ¬ lr_src j (nI k) z = 0 := fun e => w (by rw [w1, e]; decide)
        rw [if_pos w1, if_pos w1, if_neg w2, hhalf _ (tj.2 w2)]; rfl
      · rw [if_neg w1, if_neg w1]
        by_cases w2 : lr_src j (nI k) z = 0
        · rw [if_pos w2, if_pos w2, hhalf _ (ti.2 w1)]; rfl
        · rw [if_neg w2, if_neg w2, ← lz_T_in (ti.2 w1) (tj.2 w2)]; rfl
  have hB : lz_b 2000000000000000 (lp_B (lz_T (2 * N) B) (lp_s k z i) (lp_s k z j)) := by
    cases lp_s k z i with
    | none =>
      cases lp_s k z j with
      | none => exact lz_b_s.mpr (by omega)
      | some t => exact lz_b_hf (hb t t) (by omega)
    | some s =>
      cases lp_s k z j with
      | none => exact lz_b_hf (hb s s) (by omega)
      | some t => exact hb s t
  obtain ⟨a1, a2, a3⟩ := lp_add (i := i) (k := k) (v := v) (by omega) h1 (by omega) hv
  obtain ⟨b1, b2, b3⟩ := lp_add (i := j) (k := k) (v := v) (by omega) h1 (by omega) hv
  have hs : (lr_add i (nI k) v + lr_add j (nI k) v).toInt = lp_d k v i + lp_d k v j := by
    rw [lz_add (by rw [a1, b1]; omega) (by rw [a1, b1]; omega), a1, b1]
  have hsv : lz_v (lr_add i (nI k) v + lr_add j (nI k) v) = some (lp_d k v i + lp_d k v j) := by
    rw [lz_v_s (fun q => by rw [q, lz_ET] at hs; omega), hs]
  have hsb : lz_b 2000000000 (some (lp_d k v i + lp_d k v j)) := lz_b_s.mpr (by omega)
  constructor
  · unfold lr_gA lp_P
    rw [lz_plus (M := 2000000000000000) (M' := 2000000000) (by rw [hg]; exact hB) (by rw [hsv]; exact hsb) (by omega), hg, hsv]
  · exact lz_b_w (lz_b_ad hB hsb) (by omega)
