/-! HOLDING THE TWO TOGETHER: what the tables and the rows hold, as matrices -/
def lz_Z : lr_M := fun _ _ => none
theorem lz_T_ext {n : Nat} {f g : Nat → Int64} (h : ∀ i, i < n → ∀ j, j < n → f (i * n + j) = g (i * n + j)) : lz_T n f = lz_T n g := by
  funext i j
  by_cases q : i < n ∧ j < n
  · rw [lz_T_in q.1 q.2, lz_T_in q.1 q.2, h i q.1 j q.2]
  · rw [lz_T_out q, lz_T_out q]
theorem lr_copy_at {f g : Nat → Int64} {N q : Nat} (h : q < N) : lr_copy f g N q = f q := by
  unfold lr_copy va_cpy; rw [if_pos (by omega)]; congr 1; omega
theorem lz_T_copy {n : Nat} {f g : Nat → Int64} : lz_T n (lr_copy f g (n * n)) = lz_T n f := lz_T_ext (fun i hi j hj => lr_copy_at (lr_ix hi hj))
theorem lr_fill_at {f : Nat → Int64} {N q : Nat} {c : Int64} : lr_fill f N c q = if q < N then c else f q := by
  unfold lr_fill
  induction N with
  | zero => rw [if_neg (by omega)]; rfl
  | succ N ih =>
    show vp_updL (lr_it (fun i f => vp_updL f i c) N f) N c q = _
    by_cases h : q = N
    · subst h; rw [vl_eq, if_pos (by omega)]
    · rw [vl_ne h, ih]
      by_cases h2 : q < N
      · rw [if_pos h2, if_pos (by omega)]
      · rw [if_neg h2, if_neg (by omega)]
theorem lz_T_fill {n : Nat} {f : Nat → Int64} : lz_T n (lr_fill f (n * n) lr_E) = lz_Z := by
  funext i j
  by_cases q : i < n ∧ j < n
  · rw [lz_T_in q.1 q.2, lr_fill_at, if_pos (lr_ix q.1 q.2), lz_v_E]; rfl
  · rw [lz_T_out q]; rfl
theorem lz_T_all {n : Nat} {K : Nat → Int64} : lz_T n (lr_all K n) = lz_Z := lz_T_fill
theorem lz_T_allB {n : Nat} {B : Nat → Int64} (he : n % 2 = 0) : lz_T n (lr_allB B n) = lz_O n (some 0) lz_Z := by
  unfold lr_allB; rw [lz_opps he, lz_T_fill, lz_v0]
theorem lz_T_store {n i j : Nat} {f : Nat → Int64} {c : Int64} (hi : i < n) (hj : j < n) : lz_T n (lr_store f n i j c) = lq_up (lz_T n f) i j (lz_v c) := by
  funext a b
  by_cases q : a < n ∧ b < n
  · rw [lz_T_in q.1 q.2]
    unfold lr_store
    rw [lm_up2]
    by_cases w : a * n + b = i * n + j ∨ a * n + b = j * n + i
    · rw [if_pos w]
      rw [lz_ix q.2 hj, lz_ix q.2 hi] at w
      unfold lq_up; rw [if_pos w]
    · rw [if_neg w]
      rw [lz_ix q.2 hj, lz_ix q.2 hi] at w
      rw [lq_up_ne w, lz_T_in q.1 q.2]
  · rw [lz_T_out q, lq_up_ne (by rintro (⟨rfl, rfl⟩ | ⟨rfl, rfl⟩) <;> exact q ⟨by omega, by omega⟩), lz_T_out q]
theorem lz_T_lower {n i j : Nat} {f : Nat → Int64} {c : Int64} {M M' : Int} (hi : i < n) (hj : j < n) (hb : lz_b M (lz_T n f i j)) (hc : lz_b M' (lz_v c)) (hm : M < 4611686018427387904) (hm' : M' < 4611686018427387904) : lz_T n (lr_lower f n i j c) = lq_up (lz_T n f) i j (lr_mn (lz_T n f i j) (lz_v c)) := by
  unfold lr_lower
  rw [lz_T_in hi hj] at hb
  rw [lz_T_store hi hj, lz_min hb hc hm hm', lz_T_in hi hj]
theorem lr_symI_at {G : Nat → Nat → Int64} {n i t a b : Nat} {F : Nat → Int64} (ht : i + t ≤ n) (ha : a < n) (hb : b < n) : lr_symI G n i t F (a * n + b) = if min a b = i ∧ max a b < i + t then G (min a b) (max a b) else F (a * n + b) := by
  unfold lr_symI
  induction t with
  | zero =>
    rw [if_neg (by omega)]; rfl
  | succ t ih =>
    show lr_store (lr_it (fun t F => lr_store F n i (i + t) (G i (i + t))) t F) n i (i + t) (G i (i + t)) (a * n + b) = _
    unfold lr_store
    rw [lm_up2]
    by_cases w : a * n + b = i * n + (i + t) ∨ a * n + b = (i + t) * n + i
    · rw [if_pos w]
      rw [lz_ix hb (by omega), lz_ix hb (by omega)] at w
      rw [if_pos (by omega)]
      have e1 : min a b = i := by omega
      have e2 : max a b = i + t := by omega
      rw [e1, e2]
    · rw [if_neg w, show (lr_it (fun t F => vp_updL (vp_updL F (i * n + (i + t)) (G i (i + t))) ((i + t) * n + i) (G i (i + t))) t F) (a * n + b) = _ from ih (by omega)]
      rw [lz_ix hb (by omega), lz_ix hb (by omega)] at w
      by_cases w2 : min a b = i ∧ max a b < i + t
      · rw [if_pos w2, if_pos (by omega)]
      · rw [if_neg w2, if_neg (by omega)]
theorem lr_symO_at {G : Nat → Nat → Int64} {n m a b : Nat} {F : Nat → Int64} (hm : m ≤ n) (ha : a < n) (hb : b < n) : lr_symO G n m F (a * n + b) = if min a b < m then G (min a b) (max a b) else F (a * n + b) := by
  unfold lr_symO
  induction m with
  | zero => rw [if_neg (by omega)]; rfl
  | succ m ih =>
    show lr_symI G n m (n - m) (lr_it (fun i F => lr_symI G n i (n - i) F) m F) (a * n + b) = _
    rw [lr_symI_at (by omega) ha hb, ih (by omega)]
    by_cases w : min a b = m ∧ max a b < m + (n - m)
    · rw [if_pos w, if_pos (by omega)]
    · rw [if_neg w]
      by_cases w2 : min a b < m
      · rw [if_pos w2, if_pos (by omega)]
      · rw [if_neg w2, if_neg (by omega)]
/-- symmetric functions of places -/
theorem lz_T_sym {G : Nat → Nat → Int64} {n : Nat} {F : Nat → Int64} (h : ∀ i, i < n → ∀ j, j < n → lz_v (G i j) = lz_v (G j i)) : lz_T n (lr_symO G n n F) = lz_X n G := by
  funext i j
  by_cases q : i < n ∧ j < n
  · rw [lz_T_in q.1 q.2, lz_X_in q.1 q.2, lr_symO_at (Nat.le_refl _) q.1 q.2, if_pos (by omega)]
    rcases Nat.le_total i j with w | w
    · rw [Nat.min_eq_left w, Nat.max_eq_right w]
    · rw [Nat.min_eq_right w, Nat.max_eq_left w]; exact h j q.2 i q.1
  · rw [lz_T_out q, lz_X_out q]
theorem lz_T_kb {n : Nat} {K B : Nat → Int64} (he : n % 2 = 0) : lz_T n (lr_kbK K B n) = lz_O n none (lz_T n B) := by
  unfold lr_kbK; rw [lz_opps he, lz_T_copy, lz_v_E]
/-- the reference's rows -/
theorem lm_none_at {R : Nat → Int64} {s k c : Nat} (hc : c < 100) : lm_none R s (100 * k + c) = if k = s then lr_E else R (100 * k + c) := by
  unfold lm_none
  have hp : ∀ i j, i < 100 → j < 100 → 100 * s + i = 100 * s + j → i = j := fun i j _ _ h => by omega
  by_cases h : k = s
  · subst h
    rw [if_pos rfl]
    exact lm_itp (F := R) (p := fun i => 100 * k + i) (g := fun _ _ => lr_E) hp hc
  · rw [if_neg h]
    exact lm_itn (F := R) (p := fun i => 100 * s + i) (g := fun _ _ => lr_E) hp (fun i hi e => by
      have e : 100 * s + i = 100 * k + c := e
      omega)
theorem lm_cpR_at {R : Nat → Int64} {t s k c : Nat} (hc : c < 100) : lm_cpR R t s (100 * k + c) = if k = t then R (100 * s + c) else R (100 * k + c) := by
  unfold lm_cpR
  have h : ∀ n, n ≤ 100 → ∀ q, lr_it (fun k R => vp_updL R (100 * t + k) (R (100 * s + k))) n R q = if 100 * t ≤ q ∧ q < 100 * t + n then R (100 * s + (q - 100 * t)) else R q := by
    intro n
    induction n with
    | zero => intro _ q; rw [if_neg (by omega)]; rfl
    | succ n ih =>
      intro hn q
      have ih := ih (by omega)
      show vp_updL (lr_it (fun k R => vp_updL R (100 * t + k) (R (100 * s + k))) n R) (100 * t + n) ((lr_it (fun k R => vp_updL R (100 * t + k) (R (100 * s + k))) n R) (100 * s + n)) q = _
      by_cases e : q = 100 * t + n
      · subst e
        rw [vl_eq, ih, if_neg (by omega), if_pos (by omega), show 100 * t + n - 100 * t = n by omega]
      · rw [vl_ne e, ih]
        by_cases w : 100 * t ≤ q ∧ q < 100 * t + n
        · rw [if_pos w, if_pos (by omega)]
        · rw [if_neg w, if_neg (by omega)]
  rw [h 100 (by omega)]
  by_cases e : k = t
  · subst e
    rw [if_pos (by omega), if_pos rfl, show 100 * k + c - 100 * k = c by omega]
  · rw [if_neg (by omega), if_neg e]
theorem lm_it3 {R : Nat → Int64} {W : Nat → Nat → Int64} {P : Nat → Nat → Prop} [∀ i k, Decidable (P i k)] {u n m k i j : Nat} (hm : m ≤ 10) (hi : i < 10) (hj : j < 10) (hn : n ≤ 10) : lr_it (fun i R => lr_it (fun k R => if P i k then R else vp_updL R (100 * u + 10 * i + k) (W i k)) m R) n R (100 * k + (10 * i + j)) = if k = u ∧ i < n ∧ j < m ∧ ¬ P i j then W i j else R (100 * k + (10 * i + j)) := by
  have hin : ∀ a t (F : Nat → Int64), a < 10 → t ≤ 10 → lr_it (fun k R => if P a k then R else vp_updL R (100 * u + 10 * a + k) (W a k)) t F (100 * k + (10 * i + j)) = if k = u ∧ i = a ∧ j < t ∧ ¬ P i j then W i j else F (100 * k + (10 * i + j)) := by
    intro a t F ha
    induction t with
    | zero => intro _; rw [if_neg (by omega)]; rfl
    | succ t ih =>
      intro ht
      have ih := ih (by omega)
      show (if P a t then (lr_it (fun k R => if P a k then R else vp_updL R (100 * u + 10 * a + k) (W a k)) t F) else vp_updL (lr_it (fun k R => if P a k then R else vp_updL R (100 * u + 10 * a + k) (W a k)) t F) (100 * u + 10 * a + t) (W a t)) (100 * k + (10 * i + j)) = _
      by_cases hp : P a t
      · rw [if_pos hp, ih]
        by_cases w : k = u ∧ i = a ∧ j < t ∧ ¬ P i j
        · rw [if_pos w, if_pos ⟨w.1, w.2.1, by omega, w.2.2.2⟩]
        · rw [if_neg w, if_neg]
          rintro ⟨w1, w2, w3, w4⟩
          by_cases e : j = t
          · subst e; subst w2; exact w4 hp
          · exact w ⟨w1, w2, by omega, w4⟩
      · rw [if_neg hp]
        by_cases e : k = u ∧ i = a ∧ j = t
        · obtain ⟨rfl, rfl, rfl⟩ := e
          rw [show 100 * k + 10 * i + j = 100 * k + (10 * i + j) by omega, vl_eq, if_pos ⟨rfl, rfl, by omega, hp⟩]
        · rw [vl_ne (by omega), ih]
          by_cases w : k = u ∧ i = a ∧ j < t ∧ ¬ P i j
          · rw [if_pos w, if_pos ⟨w.1, w.2.1, by omega, w.2.2.2⟩]
          · rw [if_neg w, if_neg]
            rintro ⟨w1, w2, w3, w4⟩
            exact w ⟨w1, w2, by omega, w4⟩
  induction n with
  | zero => rw [if_neg (by omega)]; rfl
  | succ n ih =>
    show lr_it (fun k R => if P n k then R else vp_updL R (100 * u + 10 * n + k) (W n k)) m (lr_it (fun i R => lr_it (fun k R => if P i k then R else vp_updL R (100 * u + 10 * i + k) (W i k)) m R) n R) (100 * k + (10 * i + j)) = _
    rw [hin n m _ (by omega) hm, ih (by omega)]
    by_cases w : k = u ∧ i = n ∧ j < m ∧ ¬ P i j
    · rw [if_pos w, if_pos ⟨w.1, by omega, w.2.2⟩]
    · rw [if_neg w]
      by_cases w2 : k = u ∧ i < n ∧ j < m ∧ ¬ P i j
      · rw [if_pos w2, if_pos ⟨w2.1, by omega, w2.2.2⟩]
      · rw [if_neg w2, if_neg]
        rintro ⟨w3, w4, w5⟩
        by_cases e : i = n
        · exact w ⟨w3, e, w5⟩
        · exact w2 ⟨w3, by omega, w5⟩
theorem lm_kc_at {D R : Nat → Int64} {m u n k i j : Nat} (hm : m ≤ 10) (hn : n ≤ 10) (hi : i < 10) (hj : j < 10) : lm_kc D m u n R (100 * k + (10 * i + j)) = if k = u ∧ i < n ∧ j < m ∧ ¬ j = lr_op i then lm_hv i j (D (10 * i + j)) else R (100 * k + (10 * i + j)) :=
  lm_it3 (P := fun i k => k = lr_op i) (W := fun i k => lm_hv i k (D (10 * i + k))) hm hi hj hn
theorem lm_km_at {Md R : Nat → Int64} {m u n k i j : Nat} (hm : m ≤ 10) (hn : n ≤ 10) (hi : i < 10) (hj : j < 10) : lm_km Md m u n R (100 * k + (10 * i + j)) = if k = u ∧ i < n ∧ j < m then Md (10 * i + j) else R (100 * k + (10 * i + j)) := by
  have := lm_it3 (R := R) (u := u) (k := k) (P := fun _ _ => False) (W := fun i k => Md (10 * i + k)) hm hi hj hn
  simp only [if_false, not_false_eq_true, and_true] at this
  exact this
