/-! widen, narrow, held together -/
theorem iv_km {N k : Nat} {R R1 Md : Nat → Int64} {Em Em1 : Nat → Int32} {X : Nat → Nat → Int64} {Z : lr_M} (hN : N ≤ 5) (hg : lz_gd (2 * N) Z) (ha : lm_ag N Md X) (hX : ∀ i, i < 2 * N → ∀ j, j < 2 * N → lz_v (X i j) = lz_hv i j (Z i j)) (h : lm_keptO N Md k R Em R1 Em1) : iv_rr Z R1 k ∧ iv_ot R R1 k ∧ (∀ q, q ≠ k → Em1 q = Em q) ∧ Em1 k = 0 := by
  obtain ⟨h1, h2⟩ := h
  rw [h1, h2]
  refine ⟨fun i hi j hj => ?_, fun q hq c hc => ?_, fun q hq => by rw [lm_upd_n hq, lm_upd_n hq], by rw [lm_upd_k]; decide⟩
  · rw [lm_km_at (by omega) (by omega) hi hj]
    by_cases q : i < 2 * N ∧ j < 2 * N
    · rw [if_pos ⟨rfl, q.1, q.2⟩, ha i j q.1 q.2]; exact hX i q.1 j q.2
    · rw [if_neg (fun w => q w.2), lm_none_at (by omega), if_pos rfl, lz_v_E, hg i j q]
      unfold lz_hv; split <;> rfl
  · have ⟨i, j, hi, hj, e⟩ : ∃ i j, i < 10 ∧ j < 10 ∧ c = 10 * i + j := ⟨c / 10, c % 10, by omega, by omega, by omega⟩
    subst e
    rw [lm_km_at (by omega) (by omega) hi hj, if_neg (fun w => hq w.1), lm_none_at (by omega), if_neg hq]
theorem iv_mxc {N k i j : Nat} {Z : lr_M} {R : Nat → Int64} (hN : N ≤ 5) (h : iv_K N Z) (hr : iv_rr Z R k) (hi : i < 2 * N) (hj : j < 2 * N) : lz_v (lm_db i j (R (100 * k + 10 * i + j))) = Z i j := by
  have := congrFun (congrFun (iv_mx hN h hr) i) j
  rw [lz_X_in hi hj] at this
  rw [show 100 * k + 10 * i + j = 100 * k + (10 * i + j) by omega]
  exact this
theorem iv_like {N k k0 : Nat} {K B : Nat → Nat → Int64} {E Em : Nat → Int32} {R : Nat → Int64} {Km Bm K1 B1 : Nat → Int64} {E1 : Int32} (h : iv_A N K B E R Em) (hk0 : k0 < 8) (hl : lr_likeO Km Bm (2 * N) (K k0) (B k0) (E k0) K1 B1 E1) {R1 : Nat → Int64} {Em1 : Nat → Int32} {r' : Int32} (h1 : R1 = lm_cpR R k k0) (h2 : Em1 = upd Em k (Em k0)) (h3 : (Em1 k = 0 ∧ r' = nI 1) ∨ (¬ Em1 k = 0 ∧ r' = nI 0)) : (∀ K2 B2 E2 r, lr_tkO (2 * N) K1 B1 E1 (K k) (B k) K2 B2 E2 r → r' = r ∧ iv_A N (va_up K k K2) (va_up B k B2) (va_up E k E2) R1 Em1) ∧ (E1 = 0 → ¬ lr_tooFar B1 (2 * N)) := by
  obtain ⟨rfl, rfl, rfl⟩ := hl
  obtain ⟨a1, a2, a3⟩ := h k0 hk0
  constructor
  · intro K2 B2 E2 r ht
    obtain ⟨t1, t2, t3, t4, t5⟩ := iv_tk ht
    rw [lz_T_copy] at t1 t2
    rw [h1, h2]
    refine ⟨?_, iv_cp h hk0 t1 t2 t3⟩
    rw [h2, lm_upd_k, a3] at h3
    rcases h3 with ⟨w, w2⟩ | ⟨w, w2⟩
    · rw [w2, (t4 w).2]
    · rw [w2, t5 w]
  · intro e w
    obtain ⟨i, n⟩ := a1.st e
    have := (iv_far (B := lr_copy (B k0) Bm (2 * N * (2 * N))) (M := 2000000000000000) (by rw [lz_T_copy]; exact i.1) (by rw [lz_T_copy]; exact lz_nf_B n lz_T_gd) (by omega)).2.mp w
    rw [lz_T_copy] at this; exact this n
theorem iv_widen {N k k2 k3 : Nat} {K B : Nat → Nat → Int64} {E Em : Nat → Int32} {R : Nat → Int64} {Km Bm K1 B1 : Nat → Int64} {E1 : Int32} (hN : N ≤ 5) (h : iv_A N K B E R Em) (hk : k < 8) (hk2 : k2 < 8) (hk3 : k3 < 8) (ha : lr_widO Km Bm (2 * N) (K k2) (B k2) (E k2) (K k3) (B k3) (E k3) K1 B1 E1) : ∃ Y, (∀ q2 q3, q2 < 8 → q3 < 8 → nI k2 = nI q2 → nI k3 = nI q3 → Em q2 = 0 → Em q3 = 0 → lm_Cl N (fun i j => lm_db i j (lm_wM (iv_mat N (B q3)) R q2 i j)) (some Y)) ∧
    (∀ th r' R1 Em1, lm_widO N R Em (fun k => iv_mat N (B k)) (nI k) (nI k2) (nI k3) Y th r' R1 Em1 → (∀ K2 B2 E2 r, lr_tkO (2 * N) K1 B1 E1 (K k) (B k) K2 B2 E2 r → th = nI 0 ∧ r' = r ∧ iv_A N (va_up K k K2) (va_up B k B2) (va_up E k E2) R1 Em1) ∧ (E1 = 0 → lr_tooFar B1 (2 * N) → th = nI 2 ∧ iv_A N K B E R1 Em1)) := by
  obtain ⟨h2, r2, m2⟩ := h k2 hk2
  obtain ⟨h3, r3, m3⟩ := h k3 hk3
  have hro : ∀ {Y th r' R1 Em1}, lm_widO N R Em (fun k => iv_mat N (B k)) (nI k) (nI k2) (nI k3) Y th r' R1 Em1 → (((¬ E k2 = 0 ∨ ¬ E k3 = 0) ∧ th = nI 0 ∧ ∃ k0, ((¬ E k2 = 0 ∧ k0 = k3) ∨ (E k2 = 0 ∧ k0 = k2)) ∧ R1 = lm_cpR R k k0 ∧ Em1 = upd Em k (Em k0) ∧ ((Em1 k = 0 ∧ r' = nI 1) ∨ (¬ Em1 k = 0 ∧ r' = nI 0))) ∨ (E k2 = 0 ∧ E k3 = 0 ∧ ((lm_farM N Y ∧ th = nI 2 ∧ r' = nI 0 ∧ R1 = R ∧ Em1 = Em) ∨ (¬ lm_farM N Y ∧ th = nI 0 ∧ r' = nI 1 ∧ ∃ Md, lm_ag N Md (lm_wM (iv_mat N (B k3)) R k2) ∧ lm_keptO N Md k R Em R1 Em1)))) := by
    intro o th r' R1 Em1 hr
    rcases hr with ⟨w, _⟩ | ⟨a, b, c, ⟨l1, l2, l3, e1, e2, e3⟩, hr⟩
    · exact absurd ⟨iv_S hk, iv_S hk2, iv_S hk3⟩ w
    · have := iv_8 hk l1 e1
      have := iv_8 hk2 l2 e2
      have := iv_8 hk3 l3 e3
      subst_vars
      rw [m2, m3] at hr
      exact hr
  rcases ha with ⟨e2, hl⟩ | ⟨e2, e3, hl⟩ | ⟨e2, e3, hcl⟩
  · refine ⟨fun _ _ => 0, fun q2 q3 l2 l3 e2' e3' w _ => ?_, fun th r' R1 Em1 hr => ?_⟩
    · rw [← iv_8 hk2 l2 e2', m2] at w; exact absurd w e2
    · rcases hro hr with ⟨_, q1, k0, q2, q3, q4, q5⟩ | ⟨w, _⟩
      · rcases q2 with ⟨_, rfl⟩ | ⟨w, _⟩
        · obtain ⟨p1, p2⟩ := iv_like h hk3 hl q3 q4 q5
          exact ⟨fun K2 B2 E2 r ht => ⟨q1, p1 K2 B2 E2 r ht⟩, fun w w2 => absurd w2 (p2 w)⟩
        · exact absurd w e2
      · exact absurd w e2
  · refine ⟨fun _ _ => 0, fun q2 q3 l2 l3 e2' e3' _ w => ?_, fun th r' R1 Em1 hr => ?_⟩
    · rw [← iv_8 hk3 l3 e3', m3] at w; exact absurd w e3
    · rcases hro hr with ⟨_, q1, k0, q2, q3, q4, q5⟩ | ⟨_, w, _⟩
      · rcases q2 with ⟨w, _⟩ | ⟨_, rfl⟩
        · exact absurd e2 w
        · obtain ⟨p1, p2⟩ := iv_like h hk2 hl q3 q4 q5
          exact ⟨fun K2 B2 E2 r ht => ⟨q1, p1 K2 B2 E2 r ht⟩, fun w w2 => absurd w2 (p2 w)⟩
      · exact absurd w e3
  · obtain ⟨i2, n2⟩ := h2.st e2
    obtain ⟨i3, n3⟩ := h3.st e3
    have b3 := lz_nf_B n3 lz_T_gd
    have kz := h2.1
    obtain ⟨Zw, hZw⟩ : ∃ Zw : lr_M, Zw = fun i j => if lr_mn (lz_T (2 * N) (B k3) i j) (lz_T (2 * N) (K k2) i j) = lz_T (2 * N) (B k3) i j then lz_T (2 * N) (K k2) i j else none := ⟨_, rfl⟩
    have zor : ∀ i j, (Zw i j = lz_T (2 * N) (K k2) i j ∧ lr_le (lz_T (2 * N) (B k3) i j) (lz_T (2 * N) (K k2) i j)) ∨ (Zw i j = none ∧ ¬ lr_le (lz_T (2 * N) (B k3) i j) (lz_T (2 * N) (K k2) i j)) := fun i j => by
      rw [hZw]
      by_cases w : lr_le (lz_T (2 * N) (B k3) i j) (lz_T (2 * N) (K k2) i j)
      · left; exact ⟨if_pos (lr_mn_of w), w⟩
      · right; exact ⟨if_neg (fun e => w (by rw [← e]; exact lr_mn_r _ _)), w⟩
    have hKw : iv_K N Zw := by
      refine ⟨fun i hi j hj => ?_, fun i j => ?_, fun i hi x hx => ?_, fun i hi => ?_, fun i j q => ?_⟩
      · rw [hZw]
        show (if _ then _ else _) = (if _ then _ else _)
        rw [kz.1 i hi j hj, i3.1.1 i hi j hj]
      · rcases zor i j with ⟨e, _⟩ | ⟨e, _⟩ <;> rw [e]
        · exact kz.2.1 i j
        · exact lz_b_n
      · rcases zor i i with ⟨e, _⟩ | ⟨e, _⟩ <;> rw [e] at hx
        · exact kz.2.2.1 i hi x hx
        · exact absurd hx (by simp)
      · rcases zor i (lr_op i) with ⟨e, _⟩ | ⟨e, _⟩ <;> rw [e]
        exact kz.2.2.2.1 i hi
      · rcases zor i j with ⟨e, _⟩ | ⟨e, _⟩ <;> rw [e]
        exact kz.2.2.2.2 i j q
    have cellW : ∀ i, i < 2 * N → ∀ j, j < 2 * N → lz_v (lr_gW (K k2) (B k3) (2 * N) i j) = Zw i j := fun i hi j hj => by
      unfold lr_gW
      have b1 := kz.2.1 i j
      have b2 := b3 i j
      rw [lz_T_in hi hj] at b1 b2
      have hlt := lz_lt b1 b2 (by omega) (by omega)
      rw [← lz_T_in hi hj, ← lz_T_in hi hj] at hlt
      by_cases w : K k2 (i * (2 * N) + j) < B k3 (i * (2 * N) + j)
      · rw [if_pos w, lz_v_E]
        rcases zor i j with ⟨_, w2⟩ | ⟨e, _⟩
        · exact absurd w2 (hlt.mp w)
        · exact e.symm
      · rw [if_neg w]
        rcases zor i j with ⟨e, _⟩ | ⟨_, w2⟩
        · rw [e, lz_T_in hi hj]
        · exact absurd (hlt.mpr w2) w
    have eG : lz_T (2 * N) (lr_symO (lr_gW (K k2) (B k3) (2 * N)) (2 * N) (2 * N) (lr_all Km (2 * N))) = Zw := by
      rw [lz_T_sym (fun i hi j hj => by rw [cellW i hi j hj, cellW j hj i hi, hKw.1 i hi j hj])]
      funext i j
      by_cases q : i < 2 * N ∧ j < 2 * N
      · rw [lz_X_in q.1 q.2, cellW i q.1 j q.2]
      · rw [lz_X_out q, hKw.2.2.2.2 i j q]
    have cellM : ∀ i, i < 2 * N → ∀ j, j < 2 * N → lz_v (lm_wM (iv_mat N (B k3)) R k2 i j) = lz_hv i j (Zw i j) := fun i hi j hj => by
      unfold lm_wM lm_wc
      have mc := iv_mxc hN kz r2 hi hj
      have b2 := b3 i j
      rw [lz_T_in hi hj] at b2
      have hlt := lz_lt (c := lm_db i j (R (100 * k2 + 10 * i + j))) (d := B k3 (i * (2 * N) + j)) (by rw [mc]; exact kz.2.1 i j) b2 (by omega) (by omega)
      rw [mc, ← lz_T_in hi hj] at hlt
      by_cases w : lm_db i j (R (100 * k2 + 10 * i + j)) < B k3 (i * (2 * N) + j)
      · rw [show (if lm_db i j (R (100 * k2 + 10 * i + j)) < iv_mat N (B k3) i j then lr_E else R (100 * k2 + 10 * i + j)) = lr_E from if_pos w, lz_v_E]
        rcases zor i j with ⟨_, w2⟩ | ⟨e, _⟩
        · exact absurd w2 (hlt.mp w)
        · rw [e]; unfold lz_hv; split <;> rfl
      · rw [show (if lm_db i j (R (100 * k2 + 10 * i + j)) < iv_mat N (B k3) i j then lr_E else R (100 * k2 + 10 * i + j)) = R (100 * k2 + 10 * i + j) from if_neg w]
        rcases zor i j with ⟨e, _⟩ | ⟨_, w2⟩
        · rw [e, show 100 * k2 + 10 * i + j = 100 * k2 + (10 * i + j) by omega]; exact r2 i (by omega) j (by omega)
        · exact absurd (hlt.mpr w2) w
    have eX := iv_db hKw cellM
    have clo := iv_clo hN (by rw [eG]; exact hKw.OS) (by rw [eG]; exact hKw.OB) hcl
    rw [eG] at clo
    have hle : lr_LE (2 * N) (lz_T (2 * N) (B k2)) (lz_O (2 * N) (some 0) Zw) := fun i hi j hj => by
      have := i2.2.1 i hi j hj
      unfold lz_O at this ⊢
      by_cases w : i < 2 * N ∧ j = lr_op i
      · rw [if_pos w] at this ⊢; exact this
      · rw [if_neg w] at this ⊢
        rcases zor i j with ⟨e, _⟩ | ⟨e, _⟩ <;> rw [e]
        · exact this
        · exact lr_le_none _
    rcases clo with ⟨c1, c2, c3, c4⟩ | ⟨_, _, c3⟩
    · obtain ⟨f1, f2⟩ := iv_far c3.1 c4 (by omega)
      refine ⟨iv_mat N B1, fun q2 q3 l2 l3 e2' e3' _ _ => ?_, fun th r' R1 Em1 hr => ?_⟩
      · rw [← iv_8 hk2 l2 e2', ← iv_8 hk3 l3 e3']
        have hop : ∀ i, i < 2 * N → 0 ≤ (fun i j => lm_db i j (lm_wM (iv_mat N (B k3)) R k2 i j)) i (lr_op i) := fun i hi => iv_op0 (X := fun i j => lm_db i j (lm_wM (iv_mat N (B k3)) R k2 i j)) eX hi (lr_op_lt hi) (Or.inl (hKw.2.2.2.1 i hi))
        exact iv_R1 (X := fun i j => lm_db i j (lm_wM (iv_mat N (B k3)) R k2 i j)) hN (by rw [eX]) hKw.OS (fun i j => lz_b_w (hKw.OB i j) (by omega)) hop c3 c4 (by omega) (by omega)
      · rcases hro hr with ⟨w, _⟩ | ⟨_, _, hr⟩
        · rcases w with w | w
          · exact absurd e2 w
          · exact absurd e3 w
        · rcases hr with ⟨w1, w2, w3, rfl, rfl⟩ | ⟨w1, w2, w3, Md, w4, w5⟩
          · refine ⟨fun K2 B2 E2 r ht => ?_, fun _ _ => ⟨w2, h⟩⟩
            exact absurd (f2.mpr (f1.mp w1)) ((iv_tk ht).2.2.2.1 c1).1
          · refine ⟨fun K2 B2 E2 r ht => ?_, fun _ wf => absurd (f1.mpr (f2.mp wf)) w1⟩
            obtain ⟨t1, t2, t3, t4, _⟩ := iv_tk ht
            obtain ⟨t6, t7⟩ := t4 c1
            obtain ⟨k1, k2', k3', k4⟩ := iv_km hN hKw.2.2.2.2 w4 cellM w5
            refine ⟨w2, w3.trans t7.symm, iv_up h ?_ ?_ k2' k3' (by rw [k4, t3, c1])⟩
            · rw [t1, t2, t3, c2, c1, eG]
              exact ⟨hKw, Or.inl ⟨rfl, c3, Classical.byContradiction fun w => t6 (f2.mpr w)⟩⟩
            · rw [t1, c2, eG]; exact k1
    · exact absurd hle (c3 _ i2.1)
theorem iv_narrow {N k k2 k3 : Nat} {K B : Nat → Nat → Int64} {E Em : Nat → Int32} {R : Nat → Int64} {Km Bm K1 B1 : Nat → Int64} {E1 : Int32} (hN : N ≤ 5) (h : iv_A N K B E R Em) (hk : k < 8) (hk2 : k2 < 8) (hk3 : k3 < 8) (ha : lr_narO Km Bm (2 * N) (K k2) (B k2) (E k2) (B k3) (E k3) K1 B1 E1) : ∃ o, (∀ q2 q3, q2 < 8 → q3 < 8 → nI k2 = nI q2 → nI k3 = nI q3 → Em q2 = 0 → Em q3 = 0 → lm_Cl N (fun i j => lm_db i j (lm_nM (iv_mat N (B q2)) (iv_mat N (B q3)) R q2 i j)) o) ∧
    (∀ th r' R1 Em1, lm_narO N R Em (fun k => iv_mat N (B k)) (nI k) (nI k2) (nI k3) o th r' R1 Em1 → (∀ K2 B2 E2 r, lr_tkO (2 * N) K1 B1 E1 (K k) (B k) K2 B2 E2 r → th = nI 0 ∧ r' = r ∧ iv_A N (va_up K k K2) (va_up B k B2) (va_up E k E2) R1 Em1) ∧ (E1 = 0 → lr_tooFar B1 (2 * N) → th = nI 2 ∧ iv_A N K B E R1 Em1)) := by
  obtain ⟨h2, r2, m2⟩ := h k2 hk2
  obtain ⟨h3, r3, m3⟩ := h k3 hk3
  have hro : ∀ {o th r' R1 Em1}, lm_narO N R Em (fun k => iv_mat N (B k)) (nI k) (nI k2) (nI k3) o th r' R1 Em1 → (((¬ E k2 = 0 ∨ ¬ E k3 = 0) ∧ th = nI 0 ∧ r' = nI 0 ∧ R1 = lm_none R k ∧ Em1 = upd Em k (nI 1)) ∨ (E k2 = 0 ∧ E k3 = 0 ∧ ((o = none ∧ th = nI 0 ∧ r' = nI 0 ∧ R1 = lm_none R k ∧ Em1 = upd Em k (nI 1)) ∨ (∃ Y, o = some Y ∧ ((lm_farM N Y ∧ th = nI 2 ∧ r' = nI 0 ∧ R1 = R ∧ Em1 = Em) ∨ (¬ lm_farM N Y ∧ th = nI 0 ∧ r' = nI 1 ∧ ∃ Md, lm_ag N Md (lm_nM (iv_mat N (B k2)) (iv_mat N (B k3)) R k2) ∧ lm_keptO N Md k R Em R1 Em1)))))) := by
    intro o th r' R1 Em1 hr
    rcases hr with ⟨w, _⟩ | ⟨a, b, c, ⟨l1, l2, l3, e1, e2, e3⟩, hr⟩
    · exact absurd ⟨iv_S hk, iv_S hk2, iv_S hk3⟩ w
    · have := iv_8 hk l1 e1
      have := iv_8 hk2 l2 e2
      have := iv_8 hk3 l3 e3
      subst_vars
      rw [m2, m3] at hr
      exact hr
  have hemp : ∀ {K1 B1 : Nat → Int64} {E1 : Int32}, E1 = 1 → lz_T (2 * N) K1 = lz_Z → ∀ {th r' : Int32} {R1 : Nat → Int64} {Em1 : Nat → Int32}, th = nI 0 → r' = nI 0 → R1 = lm_none R k → Em1 = upd Em k (nI 1) → ∀ K2 B2 E2 r, lr_tkO (2 * N) K1 B1 E1 (K k) (B k) K2 B2 E2 r → th = nI 0 ∧ r' = r ∧ iv_A N (va_up K k K2) (va_up B k B2) (va_up E k E2) R1 Em1 := by
    intro K1 B1 E1 c1 c2 th r' R1 Em1 q1 q2 q3 q4 K2 B2 E2 r ht
    obtain ⟨t1, t2, t3, _, t5⟩ := iv_tk ht
    rw [q3, q4]
    refine ⟨q1, q2.trans (t5 (by rw [c1]; exact iv_1n0)).symm, iv_up h ?_ ?_ iv_ot_none (fun q hq => lm_upd_n hq) (by rw [lm_upd_k, t3, c1]; decide)⟩
    · rw [t1, t3, c2, c1]; exact iv_empty
    · rw [t1, c2]; exact iv_rr_none
  rcases ha with ⟨w, rfl, rfl, rfl⟩ | ⟨e2, e3, hcl⟩
  · refine ⟨none, fun q2 q3 l2 l3 e2 e3 w2 w3 => ?_, fun th r' R1 Em1 hr => ⟨?_, fun w => absurd w (by decide)⟩⟩
    · have := iv_8 hk2 l2 e2
      have := iv_8 hk3 l3 e3
      subst_vars
      rw [m2] at w2; rw [m3] at w3
      rcases w with w | w
      · exact absurd w2 w
      · exact absurd w3 w
    · rcases hro hr with ⟨_, q1, q2, q3, q4⟩ | ⟨q1, q2, _⟩
      · exact hemp (by decide) lz_T_all q1 q2 q3 q4
      · rcases w with w | w
        · exact absurd q1 w
        · exact absurd q2 w
  · obtain ⟨i2, n2⟩ := h2.st e2
    obtain ⟨i3, n3⟩ := h3.st e3
    have b3 := lz_nf_B n3 lz_T_gd
    have kz := h2.1
    obtain ⟨Zn, hZn⟩ : ∃ Zn : lr_M, Zn = fun i j => if lz_T (2 * N) (B k2) i j = none then lz_T (2 * N) (B k3) i j else lz_T (2 * N) (K k2) i j := ⟨_, rfl⟩
    have zor : ∀ i j, (Zn i j = lz_T (2 * N) (B k3) i j ∧ lz_T (2 * N) (B k2) i j = none) ∨ (Zn i j = lz_T (2 * N) (K k2) i j ∧ ¬ lz_T (2 * N) (B k2) i j = none) := fun i j => by
      rw [hZn]
      by_cases w : lz_T (2 * N) (B k2) i j = none
      · left; exact ⟨if_pos w, w⟩
      · right; exact ⟨if_neg w, w⟩
    have hKn : iv_K N Zn := by
      refine ⟨fun i hi j hj => ?_, fun i j => ?_, fun i hi x hx => ?_, fun i hi => ?_, fun i j q => ?_⟩
      · rw [hZn]
        show (if _ then _ else _) = (if _ then _ else _)
        rw [kz.1 i hi j hj, i3.1.1 i hi j hj, i2.1.1 i hi j hj]
      · rcases zor i j with ⟨e, _⟩ | ⟨e, _⟩ <;> rw [e]
        · exact b3 i j
        · exact kz.2.1 i j
      · rcases zor i i with ⟨e, _⟩ | ⟨e, _⟩ <;> rw [e] at hx
        · exact i3.1.e2 i hi x hx
        · exact kz.2.2.1 i hi x hx
      · rcases zor i (lr_op i) with ⟨_, e⟩ | ⟨e, _⟩
        · rw [i2.1.2.1 i hi] at e; exact absurd e (by simp)
        · rw [e]; exact kz.2.2.2.1 i hi
      · rcases zor i j with ⟨e, _⟩ | ⟨e, _⟩ <;> rw [e]
        · exact lz_T_out q
        · exact lz_T_out q
    have cellW : ∀ i, i < 2 * N → ∀ j, j < 2 * N → lz_v (lr_gN (K k2) (B k2) (B k3) (2 * N) i j) = Zn i j := fun i hi j hj => by
      unfold lr_gN
      by_cases w : B k2 (i * (2 * N) + j) = lr_E
      · rw [if_pos w]
        rcases zor i j with ⟨e, _⟩ | ⟨_, e⟩
        · rw [e, lz_T_in hi hj]
        · rw [lz_T_in hi hj, w, lz_v_E] at e; exact absurd rfl e
      · rw [if_neg w]
        rcases zor i j with ⟨_, e⟩ | ⟨e, _⟩
        · rw [lz_T_in hi hj] at e; exact absurd (lz_v_n.mp e) w
        · rw [e, lz_T_in hi hj]
    have eG : lz_T (2 * N) (lr_symO (lr_gN (K k2) (B k2) (B k3) (2 * N)) (2 * N) (2 * N) (lr_all Km (2 * N))) = Zn := by
      rw [lz_T_sym (fun i hi j hj => by rw [cellW i hi j hj, cellW j hj i hi, hKn.1 i hi j hj])]
      funext i j
      by_cases q : i < 2 * N ∧ j < 2 * N
      · rw [lz_X_in q.1 q.2, cellW i q.1 j q.2]
      · rw [lz_X_out q, hKn.2.2.2.2 i j q]
    have cellM : ∀ i, i < 2 * N → ∀ j, j < 2 * N → lz_v (lm_nM (iv_mat N (B k2)) (iv_mat N (B k3)) R k2 i j) = lz_hv i j (Zn i j) := fun i hi j hj => by
      show lz_v (lm_nc i j (B k2 (i * (2 * N) + j)) (lm_hv i j (B k3 (i * (2 * N) + j))) (R (100 * k2 + 10 * i + j))) = _
      have hR : lz_v (R (100 * k2 + 10 * i + j)) = lz_hv i j (lz_T (2 * N) (K k2) i j) := by
        rw [show 100 * k2 + 10 * i + j = 100 * k2 + (10 * i + j) by omega]; exact r2 i (by omega) j (by omega)
      unfold lm_nc lm_nw
      by_cases w : B k2 (i * (2 * N) + j) = lr_E
      · have wn : lz_T (2 * N) (B k2) i j = none := by rw [lz_T_in hi hj, w, lz_v_E]
        rw [if_pos w]
        by_cases w2 : j = lr_op i
        · rw [w2, i2.1.2.1 i hi] at wn; exact absurd wn (by simp)
        · rw [if_neg w2, if_neg (by decide)]
          rcases zor i j with ⟨e, _⟩ | ⟨_, e⟩
          · rw [e]
            unfold lm_hv lz_hv
            by_cases w3 : i = j
            · subst w3
              rw [if_pos rfl, if_pos rfl, lz_T_in hi hi]
              refine lz_hfh (lz_nf_v n3 hi hi) (by omega) ?_
              have := i3.1.e2 i hi
              rw [lz_T_in hi hi] at this; exact this
            · rw [if_neg w3, if_neg w3, lz_T_in hi hj]
          · exact absurd wn e
      · rw [if_neg w, if_pos (by decide), hR]
        rcases zor i j with ⟨_, e⟩ | ⟨e, _⟩
        · rw [lz_T_in hi hj] at e; exact absurd (lz_v_n.mp e) w
        · rw [e]
    have eX := iv_db hKn cellM
    have clo := iv_clo hN (by rw [eG]; exact hKn.OS) (by rw [eG]; exact hKn.OB) hcl
    rw [eG] at clo
    have hop : ∀ i, i < 2 * N → 0 ≤ (fun i j => lm_db i j (lm_nM (iv_mat N (B k2)) (iv_mat N (B k3)) R k2 i j)) i (lr_op i) := fun i hi => iv_op0 (X := fun i j => lm_db i j (lm_nM (iv_mat N (B k2)) (iv_mat N (B k3)) R k2 i j)) eX hi (lr_op_lt hi) (Or.inl (hKn.2.2.2.1 i hi))
    obtain ⟨o, ho1, ho2⟩ := iv_o hN (X := fun i j => lm_db i j (lm_nM (iv_mat N (B k2)) (iv_mat N (B k3)) R k2 i j)) (by rw [eX]) hop hKn.OS hKn.OB clo
    refine ⟨o, fun q2 q3 l2 l3 e2 e3 _ _ => by rw [← iv_8 hk2 l2 e2, ← iv_8 hk3 l3 e3]; exact ho1, fun th r' R1 Em1 hr => ?_⟩
    rcases hro hr with ⟨w, _⟩ | ⟨_, _, hr⟩
    · rcases w with w | w
      · exact absurd e2 w
      · exact absurd e3 w
    · rcases clo with ⟨c1, c2, c3, c4⟩ | ⟨c1, c2, c3⟩
      · obtain ⟨f1, f2⟩ := iv_far c3.1 c4 (by omega)
        rcases ho2 with ⟨_, w⟩ | ⟨w, _⟩
        · rcases hr with ⟨w2, _⟩ | ⟨Y, w2, hr⟩
          · rw [w] at w2; exact absurd w2 (by simp)
          · rw [w] at w2; injection w2 with w2; subst w2
            rcases hr with ⟨w1, w2, w3, rfl, rfl⟩ | ⟨w1, w2, w3, Md, w4, w5⟩
            · refine ⟨fun K2 B2 E2 r ht => ?_, fun _ _ => ⟨w2, h⟩⟩
              exact absurd (f2.mpr (f1.mp w1)) ((iv_tk ht).2.2.2.1 c1).1
            · refine ⟨fun K2 B2 E2 r ht => ?_, fun _ wf => absurd (f1.mpr (f2.mp wf)) w1⟩
              obtain ⟨t1, t2, t3, t4, _⟩ := iv_tk ht
              obtain ⟨t6, t7⟩ := t4 c1
              obtain ⟨k1, k2', k3', k4⟩ := iv_km hN hKn.2.2.2.2 w4 cellM w5
              refine ⟨w2, w3.trans t7.symm, iv_up h ?_ ?_ k2' k3' (by rw [k4, t3, c1])⟩
              · rw [t1, t2, t3, c2, c1, eG]
                exact ⟨hKn, Or.inl ⟨rfl, c3, Classical.byContradiction fun w => t6 (f2.mpr w)⟩⟩
              · rw [t1, c2, eG]; exact k1
        · rw [c1] at w; exact absurd w.symm iv_1n0
      · rcases ho2 with ⟨w, _⟩ | ⟨_, w⟩
        · rw [c1] at w; exact absurd w iv_1n0
        · rcases hr with ⟨_, q1, q2, q3, q4⟩ | ⟨Y, w2, _⟩
          · exact ⟨hemp c1 c2 q1 q2 q3 q4, fun w => by rw [c1] at w; exact absurd w iv_1n0⟩
          · rw [w] at w2; exact absurd w2 (by simp)
