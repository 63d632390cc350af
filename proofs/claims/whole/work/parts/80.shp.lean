/-! all, copy, meet, join, widen, narrow, held together -/
theorem iv_S {k : Nat} (hk : k < 8) : okS (nI k) := ⟨nI_pos (by omega), (nI_ltI (by omega) (by decide)).mpr hk⟩
theorem iv_1n0 : ¬ (1 : Int32) = 0 := by decide
theorem iv_sh.st {N : Nat} {Z W : lr_M} {E : Int32} (h : iv_sh N Z W E) (he : E = 0) : lr_Is N (lz_O (2 * N) (some 0) Z) W ∧ lz_nf (2 * N) W := by
  rcases h.2 with ⟨_, a, b⟩ | ⟨a, _⟩
  · exact ⟨a, b⟩
  · rw [a] at he; exact absurd he iv_1n0
theorem iv_sh.em {N : Nat} {Z W : lr_M} {E : Int32} (h : iv_sh N Z W E) (he : ¬ E = 0) : E = 1 ∧ Z = lz_Z := by
  rcases h.2 with ⟨a, _⟩ | h
  · exact absurd a he
  · exact h
theorem iv_db {N : Nat} {Z : lr_M} {X : Nat → Nat → Int64} (h : iv_K N Z) (hr : ∀ i, i < 2 * N → ∀ j, j < 2 * N → lz_v (X i j) = lz_hv i j (Z i j)) : lz_X (2 * N) (fun i j => lm_db i j (X i j)) = Z := by
  funext i j
  by_cases q : i < 2 * N ∧ j < 2 * N
  · rw [lz_X_in q.1 q.2]
    have := hr i q.1 j q.2
    unfold lm_db
    unfold lz_hv at this
    by_cases w : i = j
    · rw [if_pos w] at this ⊢
      rw [lz_dbl (M := 1000000000000001) (by rw [this]; exact lz_b_w (lz_b_half (M := 1000000000000000) (h.2.1 i j)) (by omega)) (by omega), this]
      subst w
      exact lz_dbhf (h.2.2.1 i q.1)
    · rw [if_neg w] at this ⊢; exact this
  · rw [lz_X_out q, h.2.2.2.2 i j q]
/-- a closed matrix is kept: with the look at 10^15 -/
theorem iv_fin {N k : Nat} {K B : Nat → Nat → Int64} {E Em : Nat → Int32} {R : Nat → Int64} {K1 B1 : Nat → Int64} {E1 : Int32} {o : Option (Nat → Nat → Int64)} {T : Int32} (hN : N ≤ 5) (h : iv_A N K B E R Em) (hc : (E1 = 0 ∧ lz_T (2 * N) K1 = lz_O (2 * N) none (lz_T (2 * N) B1) ∧ lr_Cl N (lz_T (2 * N) B1) ∧ lz_B 2100000000000000000 (lz_T (2 * N) B1) ∧ o = some (iv_mat N B1)) ∨ (E1 = 1 ∧ lz_T (2 * N) K1 = lz_Z ∧ o = none)) {th r' : Int32} {R1 : Nat → Int64} {Em1 : Nat → Int32} (hr : ∃ F r1, lm_res N o F r1 ∧ ((¬ r1 = 0 ∧ (∀ Y, o = some Y → lm_farM N Y) ∧ th = T ∧ r' = nI 0 ∧ R1 = R ∧ Em1 = Em) ∨ ((∀ Y, o = some Y → ¬ lm_farM N Y) ∧ th = nI 0 ∧ lm_kcO r1 F N k R Em R1 Em1 r'))) : (∀ K2 B2 E2 r, lr_tkO (2 * N) K1 B1 E1 (K k) (B k) K2 B2 E2 r → th = nI 0 ∧ r' = r ∧ iv_A N (va_up K k K2) (va_up B k B2) (va_up E k E2) R1 Em1) ∧ (E1 = 0 → lr_tooFar B1 (2 * N) → th = T ∧ iv_A N K B E R1 Em1) := by
  obtain ⟨F, r1, hres, hr⟩ := hr
  rcases hc with ⟨c1, c2, c3, c4, c5⟩ | ⟨c1, c2, c3⟩
  · obtain ⟨f1, f2⟩ := iv_far c3 c4 (by omega)
    rw [c5] at hres
    obtain ⟨e1, hag⟩ := hres.s
    have hnz : ¬ r1 = 0 := by rw [e1]; decide
    constructor
    · intro K2 B2 E2 r ht
      obtain ⟨t1, t2, t3, t4, _⟩ := iv_tk ht
      obtain ⟨t6, t7⟩ := t4 c1
      rcases hr with ⟨_, w, _⟩ | ⟨_, w2, w3⟩
      · exact absurd (f2.mpr (f1.mp (w _ c5))) t6
      · obtain ⟨k1, k2, k3, k4, k5⟩ := iv_kc1 hN (iv_mat_ag hag) c3.e2 c4 (by omega) hnz w3
        refine ⟨w2, k1.trans t7.symm, iv_up h ?_ ?_ k3 k4 (by rw [k5, t3, c1])⟩
        · rw [t1, t2, t3, c2, c1]
          exact iv_keep c3 (Classical.byContradiction fun w => t6 (f2.mpr w)) lz_T_gd
        · rw [t1, c2]; exact k2
    · intro _ wf
      rcases hr with ⟨_, _, w, _, rfl, rfl⟩ | ⟨w, _⟩
      · exact ⟨w, h⟩
      · exact absurd (f1.mpr (f2.mp wf)) (w _ c5)
  · constructor
    · intro K2 B2 E2 r ht
      obtain ⟨t1, t2, t3, _, t5⟩ := iv_tk ht
      have hz : r1 = nI 0 := by
        rcases hres with ⟨w, _⟩ | ⟨_, Y, w, _⟩
        · exact w
        · rw [c3] at w; exact absurd w (by simp)
      rcases hr with ⟨w, _⟩ | ⟨_, w2, w3⟩
      · exact absurd (by rw [hz]; decide) w
      · rw [hz] at w3
        obtain ⟨k1, k2, k3, k4, k5⟩ := iv_kcE w3
        refine ⟨w2, k1.trans (t5 (by rw [c1]; exact iv_1n0)).symm, iv_up h ?_ ?_ k3 k4 (by rw [k5, t3, c1])⟩
        · rw [t1, t3, c2, c1]; exact iv_empty
        · rw [t1, c2]; exact k2
    · intro w; rw [c1] at w; exact absurd w iv_1n0
/-- a closed matrix that is not too far is kept -/
theorem iv_fin2 {N k : Nat} {K B : Nat → Nat → Int64} {E Em : Nat → Int32} {R : Nat → Int64} {K1 B1 : Nat → Int64} {E1 : Int32} {o : Option (Nat → Nat → Int64)} (hN : N ≤ 5) (h : iv_A N K B E R Em) (c1 : E1 = 0) (c2 : lz_T (2 * N) K1 = lz_O (2 * N) none (lz_T (2 * N) B1)) (c3 : lr_Cl N (lz_T (2 * N) B1)) (c4 : lz_nf (2 * N) (lz_T (2 * N) B1)) (c5 : o = some (iv_mat N B1)) {r' z : Int32} {R1 : Nat → Int64} {Em1 : Nat → Int32} {F : Nat → Int64} {r1 : Int32} (hres : lm_res N o F r1) (hz : ¬ r1 = 0 → ¬ z = 0) (hr : lm_kcO z F N k R Em R1 Em1 r') : (∀ K2 B2 E2 r, lr_tkO (2 * N) K1 B1 E1 (K k) (B k) K2 B2 E2 r → r' = r ∧ iv_A N (va_up K k K2) (va_up B k B2) (va_up E k E2) R1 Em1) ∧ ¬ lr_tooFar B1 (2 * N) := by
  have hb := lz_nf_B c4 lz_T_gd
  have hT : ¬ lr_tooFar B1 (2 * N) := fun w => (iv_far c3 hb (by omega)).2.mp w c4
  refine ⟨fun K2 B2 E2 r ht => ?_, hT⟩
  obtain ⟨t1, t2, t3, t4, _⟩ := iv_tk ht
  rw [c5] at hres
  obtain ⟨e1, hag⟩ := hres.s
  obtain ⟨k1, k2, k3, k4, k5⟩ := iv_kc1 hN (iv_mat_ag hag) c3.e2 hb (by omega) (hz (by rw [e1]; decide)) hr
  refine ⟨k1.trans (t4 c1).2.symm, iv_up h ?_ ?_ k3 k4 (by rw [k5, t3, c1])⟩
  · rw [t1, t2, t3, c2, c1]; exact iv_keep c3 c4 lz_T_gd
  · rw [t1, c2]; exact k2
theorem iv_fin0 {N k : Nat} {K B : Nat → Nat → Int64} {E Em : Nat → Int32} {R : Nat → Int64} {K1 B1 : Nat → Int64} {E1 : Int32} (h : iv_A N K B E R Em) (c1 : E1 = 1) (c2 : lz_T (2 * N) K1 = lz_Z) {r' : Int32} {R1 : Nat → Int64} {Em1 : Nat → Int32} {F : Nat → Int64} (hr : lm_kcO (nI 0) F N k R Em R1 Em1 r') : ∀ K2 B2 E2 r, lr_tkO (2 * N) K1 B1 E1 (K k) (B k) K2 B2 E2 r → r' = r ∧ iv_A N (va_up K k K2) (va_up B k B2) (va_up E k E2) R1 Em1 := fun K2 B2 E2 r ht => by
  obtain ⟨t1, t2, t3, _, t5⟩ := iv_tk ht
  obtain ⟨k1, k2, k3, k4, k5⟩ := iv_kcE hr
  refine ⟨k1.trans (t5 (by rw [c1]; exact iv_1n0)).symm, iv_up h ?_ ?_ k3 k4 (by rw [k5, t3, c1])⟩
  · rw [t1, t3, c2, c1]; exact iv_empty
  · rw [t1, c2]; exact k2
theorem iv_all {N k : Nat} {K B : Nat → Nat → Int64} {E Em : Nat → Int32} {R : Nat → Int64} (h : iv_A N K B E R Em) : iv_A N (va_up K k (lr_all (K k) (2 * N))) (va_up B k (lr_allB (B k) (2 * N))) (va_up E k (nI 0)) (lm_none R k) (upd (upd Em k (nI 1)) k (nI 0)) := by
  refine iv_up h ?_ ?_ iv_ot_none (fun q hq => by rw [lm_upd_n hq, lm_upd_n hq]) (by rw [lm_upd_k])
  · rw [lz_T_all, lz_T_allB (by omega)]
    refine ⟨iv_Z_K, Or.inl ⟨by decide, lr_Is.self ⟨lz_O_sym iv_Z_K.1, fun i hi => lz_Oz hi, ?_, ?_, ?_⟩, ?_⟩⟩
    · intro p hp i hi j hj
      unfold lz_O
      by_cases w1 : i < 2 * N ∧ p = lr_op i
      · rw [if_pos w1]
        by_cases w2 : j = lr_op i
        · rw [if_pos ⟨hi, w2⟩, if_pos ⟨lr_op_lt hp, by rw [lr_op_op, w1.2]; exact w2⟩]
          simp [lr_ad, lr_le]
        · rw [if_neg (fun w => w2 w.2), if_neg (fun w => w2 (by rw [w.2, w1.2, lr_op_op]))]
          simp [lr_ad, lr_le, lz_Z]
      · rw [if_neg w1]
        show lr_le _ (lr_ad none _)
        exact lr_le_none _
    · intro i hi c hc
      rw [lz_O_dg] at hc; exact absurd hc (by simp [lz_Z])
    · intro i hi j hj
      rw [lz_O_dg]; exact lr_le_none _
    · intro i hi j hj
      have h0 : lz_b 0 (lz_O (2 * N) (some 0) lz_Z i j) := by
        unfold lz_O; split
        · exact lz_b_s.mpr (by omega)
        · exact lz_b_n
      exact lz_b_w h0 (by split <;> omega)
  · rw [lz_T_all]; exact iv_rr_none
theorem iv_cp {N k k2 : Nat} {K B : Nat → Nat → Int64} {E Em : Nat → Int32} {R : Nat → Int64} {K1 B1 : Nat → Int64} {E1 : Int32} (h : iv_A N K B E R Em) (hk2 : k2 < 8) (hK : lz_T (2 * N) K1 = lz_T (2 * N) (K k2)) (hB : lz_T (2 * N) B1 = lz_T (2 * N) (B k2)) (hE : E1 = E k2) : iv_A N (va_up K k K1) (va_up B k B1) (va_up E k E1) (lm_cpR R k k2) (upd Em k (Em k2)) := by
  obtain ⟨a1, a2, a3⟩ := h k2 hk2
  refine iv_up h ?_ ?_ (fun q hq c hc => by rw [lm_cpR_at hc, if_neg hq]) (fun q hq => lm_upd_n hq) (by rw [lm_upd_k, a3, hE])
  · rw [hK, hB, hE]; exact a1
  · rw [hK]
    intro i hi j hj
    rw [lm_cpR_at (by omega), if_pos rfl]
    exact a2 i hi j hj
theorem iv_copy {N k k2 : Nat} {K B : Nat → Nat → Int64} {E Em : Nat → Int32} {R : Nat → Int64} (h : iv_A N K B E R Em) (hk2 : k2 < 8) : iv_A N (va_up K k (lr_copy (K k2) (K k) (2 * N * (2 * N)))) (va_up B k (lr_copy (B k2) (B k) (2 * N * (2 * N)))) (va_up E k (E k2)) (lm_cpR R k k2) (upd Em k (Em k2)) := iv_cp h hk2 lz_T_copy lz_T_copy rfl
theorem lz_T_sv {n i j : Nat} {B : Nat → Int64} (h : lr_Sym n (lz_T n B)) (hi : i < n) (hj : j < n) : B (i * n + j) = B (j * n + i) := by
  have := h i hi j hj
  rw [lz_T_in hi hj, lz_T_in hj hi] at this
  exact lz_v_inj this
theorem lz_mnn {M M' : Int} {c d : Int64} (hc : lz_b M (lz_v c)) (hd : lz_b M' (lz_v d)) (hm : M < 4611686018427387904) (hm' : M' < 4611686018427387904) : lz_v (lm_mnn c d) = lr_mn (lz_v c) (lz_v d) := by
  rw [← lz_min hc hd hm hm']
  unfold lm_mnn lr_min
  by_cases h : d ≤ c
  · rw [if_pos h]
    by_cases h2 : d < c
    · rw [if_pos h2]
    · rw [if_neg h2]; rw [Int64.le_antisymm h (Int64.not_lt.mp h2)]
  · rw [if_neg h, if_neg (fun q => h (Int64.le_of_lt q))]
theorem lz_nf_v {n : Nat} {B : Nat → Int64} (h : lz_nf n (lz_T n B)) {i j : Nat} (hi : i < n) (hj : j < n) : lz_b 2000000000000000 (lz_v (B (i * n + j))) := by
  have := lz_nf_B h lz_T_gd i j
  rw [lz_T_in hi hj] at this; exact this
/-- meet -/
theorem iv_meet {N k k2 k3 : Nat} {K B : Nat → Nat → Int64} {E Em : Nat → Int32} {R : Nat → Int64} {Km Bm K1 B1 : Nat → Int64} {E1 : Int32} (hN : N ≤ 5) (h : iv_A N K B E R Em) (hk : k < 8) (hk2 : k2 < 8) (hk3 : k3 < 8) (ha : lr_meetO Km Bm (2 * N) (B k2) (E k2) (B k3) (E k3) K1 B1 E1) : ∃ o, (∀ q2 q3, q2 < 8 → q3 < 8 → nI k2 = nI q2 → nI k3 = nI q3 → Em q2 = 0 → Em q3 = 0 → lm_Cl N (lm_mnM (iv_mat N (B q2)) (iv_mat N (B q3))) o) ∧
    (∀ th r' R1 Em1, lm_meetO N R Em (nI k) (nI k2) (nI k3) o th r' R1 Em1 → (∀ K2 B2 E2 r, lr_tkO (2 * N) K1 B1 E1 (K k) (B k) K2 B2 E2 r → th = nI 0 ∧ r' = r ∧ iv_A N (va_up K k K2) (va_up B k B2) (va_up E k E2) R1 Em1) ∧ (E1 = 0 → lr_tooFar B1 (2 * N) → th = nI 2 ∧ iv_A N K B E R1 Em1)) := by
  obtain ⟨h2, _, m2⟩ := h k2 hk2
  obtain ⟨h3, _, m3⟩ := h k3 hk3
  have hro : ∀ {o th r' R1 Em1}, lm_meetO N R Em (nI k) (nI k2) (nI k3) o th r' R1 Em1 → (((¬ E k2 = 0 ∨ ¬ E k3 = 0) ∧ th = nI 0 ∧ ∃ F, lm_kcO (nI 0) F N k R Em R1 Em1 r') ∨ (E k2 = 0 ∧ E k3 = 0 ∧ ∃ F r1, lm_res N o F r1 ∧ ((¬ r1 = 0 ∧ (∀ Y, o = some Y → lm_farM N Y) ∧ th = nI 2 ∧ r' = nI 0 ∧ R1 = R ∧ Em1 = Em) ∨ ((∀ Y, o = some Y → ¬ lm_farM N Y) ∧ th = nI 0 ∧ lm_kcO r1 F N k R Em R1 Em1 r')))) := by
    intro o th r' R1 Em1 hr
    rcases hr with ⟨w, _⟩ | ⟨a, b, c, ⟨l1, l2, l3, e1, e2, e3⟩, hr⟩
    · exact absurd ⟨iv_S hk, iv_S hk2, iv_S hk3⟩ w
    · have := iv_8 hk l1 e1
      have := iv_8 hk2 l2 e2
      have := iv_8 hk3 l3 e3
      subst_vars
      rw [m2, m3] at hr
      exact hr
  rcases ha with ⟨w, rfl, rfl, rfl⟩ | ⟨e2, e3, K0, hcl, hkb⟩
  · refine ⟨none, fun q2 q3 l2 l3 e2 e3 w2 w3 => ?_, fun th r' R1 Em1 hr => ⟨fun K2 B2 E2 r ht => ?_, fun w => absurd w (by decide)⟩⟩
    · have := iv_8 hk2 l2 e2
      have := iv_8 hk3 l3 e3
      subst_vars
      rw [m2] at w2; rw [m3] at w3
      rcases w with w | w
      · exact absurd w2 w
      · exact absurd w3 w
    · rcases hro hr with ⟨_, q1, F, q2⟩ | ⟨q1, q2, _⟩
      · obtain ⟨p1, p2⟩ := iv_fin0 h (by decide) lz_T_all q2 K2 B2 E2 r ht
        exact ⟨q1, p1, p2⟩
      · rcases w with w | w
        · exact absurd q1 w
        · exact absurd q2 w
  · obtain ⟨i2, n2⟩ := h2.st e2
    obtain ⟨i3, n3⟩ := h3.st e3
    have b2 := lz_nf_B n2 lz_T_gd
    have b3 := lz_nf_B n3 lz_T_gd
    have eG : lz_T (2 * N) (lr_symO (lr_gM (B k2) (B k3) (2 * N)) (2 * N) (2 * N) (lr_all Km (2 * N))) = lz_X (2 * N) (lr_gM (B k2) (B k3) (2 * N)) := lz_T_sym (fun i hi j hj => by
      unfold lr_gM; rw [lz_T_sv i2.1.1 hi hj, lz_T_sv i3.1.1 hi hj])
    have eZ : lz_X (2 * N) (lr_gM (B k2) (B k3) (2 * N)) = fun i j => lr_mn (lz_T (2 * N) (B k2) i j) (lz_T (2 * N) (B k3) i j) := by
      funext i j
      by_cases q : i < 2 * N ∧ j < 2 * N
      · rw [lz_X_in q.1 q.2, lz_T_in q.1 q.2, lz_T_in q.1 q.2]
        exact lz_min (lz_nf_v n2 q.1 q.2) (lz_nf_v n3 q.1 q.2) (by omega) (by omega)
      · rw [lz_X_out q, lz_T_out q, lz_T_out q]; rfl
    have eX : lz_X (2 * N) (lm_mnM (iv_mat N (B k2)) (iv_mat N (B k3))) = fun i j => lr_mn (lz_T (2 * N) (B k2) i j) (lz_T (2 * N) (B k3) i j) := by
      funext i j
      by_cases q : i < 2 * N ∧ j < 2 * N
      · rw [lz_X_in q.1 q.2, lz_T_in q.1 q.2, lz_T_in q.1 q.2]
        exact lz_mnn (lz_nf_v n2 q.1 q.2) (lz_nf_v n3 q.1 q.2) (by omega) (by omega)
      · rw [lz_X_out q, lz_T_out q, lz_T_out q]; rfl
    have hop : ∀ i, i < 2 * N → (fun i j => lr_mn (lz_T (2 * N) (B k2) i j) (lz_T (2 * N) (B k3) i j)) i (lr_op i) = some 0 := fun i hi => by
      show lr_mn _ _ = _
      rw [i2.1.2.1 i hi, i3.1.2.1 i hi]; rfl
    have hs : lr_Sym (2 * N) (lz_O (2 * N) (some 0) (fun i j => lr_mn (lz_T (2 * N) (B k2) i j) (lz_T (2 * N) (B k3) i j))) := lz_O_sym (fun i hi j hj => by rw [i2.1.1 i hi j hj, i3.1.1 i hi j hj])
    have hb : lz_B 2000000000000000 (lz_O (2 * N) (some 0) (fun i j => lr_mn (lz_T (2 * N) (B k2) i j) (lz_T (2 * N) (B k3) i j))) := lz_OB (fun i j => lz_b_mn (b2 i j) (b3 i j)) (by omega)
    rw [eZ] at eG
    have clo := iv_clo hN (by rw [eG]; exact hs) (by rw [eG]; exact hb) hcl
    rw [eG] at clo
    obtain ⟨o, ho1, ho2⟩ := iv_o hN (X := lm_mnM (iv_mat N (B k2)) (iv_mat N (B k3))) (by rw [eX]) (fun i hi => iv_op0 eX hi (lr_op_lt hi) (Or.inr (hop i hi))) hs hb clo
    refine ⟨o, fun q2 q3 l2 l3 e2 e3 _ _ => by rw [← iv_8 hk2 l2 e2, ← iv_8 hk3 l3 e3]; exact ho1, fun th r' R1 Em1 hr => ?_⟩
    rcases hro hr with ⟨w, _⟩ | ⟨_, _, hr⟩
    · rcases w with w | w
      · exact absurd e2 w
      · exact absurd e3 w
    · refine iv_fin hN h ?_ hr
      rcases clo with ⟨c1, c2, c3, c4⟩ | ⟨c1, c2, c3⟩
      · left
        rcases ho2 with ⟨_, w⟩ | ⟨w, _⟩
        · rcases hkb with ⟨w2, _⟩ | ⟨_, w2⟩
          · exact absurd c1 w2
          · exact ⟨c1, by rw [w2, lz_T_kb (by omega)], c3.1, c4, w⟩
        · rw [c1] at w; exact absurd w.symm iv_1n0
      · right
        rcases ho2 with ⟨w, _⟩ | ⟨_, w⟩
        · rw [c1] at w; exact absurd w iv_1n0
        · rcases hkb with ⟨_, w2⟩ | ⟨w2, _⟩
          · exact ⟨c1, by rw [w2]; exact c2, w⟩
          · rw [c1] at w2; exact absurd w2 iv_1n0
/-- join: the greater of closed matrices is closed -/
def lr_mx (a b : Option Int) : Option Int := match a, b with
  | none, _ => none
  | some _, none => none
  | some x, some y => some (if y < x then x else y)
theorem lr_mx_cl {N : Nat} {U V : lr_M} (hU : lr_Cl N U) (hV : lr_Cl N V) : lr_Cl N (fun i j => lr_mx (U i j) (V i j)) := by
  refine ⟨fun i hi j hj => by show lr_mx _ _ = lr_mx _ _; rw [hU.1 i hi j hj, hV.1 i hi j hj], fun i hi => by show lr_mx _ _ = _; rw [hU.2.1 i hi, hV.2.1 i hi]; rfl, fun p hp i hi j hj => ?_, fun i hi c hc => ?_, fun i hi j hj => ?_⟩
  · have a := hU.2.2.1 p hp i hi j hj
    have b := hV.2.2.1 p hp i hi j hj
    show lr_le (lr_mx _ _) (lr_ad (lr_mx _ _) (lr_mx _ _))
    generalize U i j = u at *
    generalize U i p = u1 at *
    generalize U (lr_op p) j = u2 at *
    generalize V i j = v at *
    generalize V i p = v1 at *
    generalize V (lr_op p) j = v2 at *
    cases u <;> cases u1 <;> cases u2 <;> cases v <;> cases v1 <;> cases v2 <;> simp_all [lr_mx, lr_le, lr_ad]
    omega
  · have a := hU.2.2.2.1 i hi
    have b := hV.2.2.2.1 i hi
    have hc : lr_mx (U i i) (V i i) = some c := hc
    generalize U i i = u at *
    generalize V i i = v at *
    cases u <;> cases v <;> simp_all [lr_mx]
    omega
  · have a := hU.2.2.2.2 i hi j hj
    have b := hV.2.2.2.2 i hi j hj
    show lr_le (lr_db (lr_mx _ _)) (lr_ad (lr_mx _ _) (lr_mx _ _))
    generalize U i j = u at *
    generalize U i i = u1 at *
    generalize U j j = u2 at *
    generalize V i j = v at *
    generalize V i i = v1 at *
    generalize V j j = v2 at *
    cases u <;> cases u1 <;> cases u2 <;> cases v <;> cases v1 <;> cases v2 <;> simp_all [lr_mx, lr_le, lr_ad, lr_db]
    omega
theorem lr_mx_b {M : Int} {a b : Option Int} (ha : lz_b M a) (hb : lz_b M b) : lz_b M (lr_mx a b) := by
  cases a with
  | none => exact lz_b_n
  | some x =>
    cases b with
    | none => exact lz_b_n
    | some y =>
      have := ha x rfl
      have := hb y rfl
      show lz_b M (some (if y < x then x else y))
      rw [lz_b_s]; split <;> omega
theorem lz_max {M : Int} {c d : Int64} (hc : lz_b M (lz_v c)) (hd : lz_b M (lz_v d)) (hm : M < 4611686018427387904) : lz_v (lr_max c d) = lr_mx (lz_v c) (lz_v d) ∧ lz_v (lm_mxx c d) = lr_mx (lz_v c) (lz_v d) := by
  have hl := lz_le hc hd hm hm
  have hl' := lz_le hd hc hm hm
  have k1 : lr_le (lz_v c) (lz_v d) → lr_mx (lz_v c) (lz_v d) = lz_v d := fun q => by
    generalize lz_v c = a at *
    generalize lz_v d = b at *
    cases a <;> cases b <;> simp_all [lr_le, lr_mx]; omega
  have k2 : lr_le (lz_v d) (lz_v c) → lr_mx (lz_v c) (lz_v d) = lz_v c := fun q => by
    generalize lz_v c = a at *
    generalize lz_v d = b at *
    cases a <;> cases b <;> simp_all [lr_le, lr_mx]; omega
  constructor
  · unfold lr_max
    by_cases h : d < c
    · rw [if_pos h, k2 (hl'.mp (Int64.le_of_lt h))]
    · rw [if_neg h, k1 (hl.mp (Int64.not_lt.mp h))]
  · unfold lm_mxx
    by_cases h : c ≤ d
    · rw [if_pos h, k1 (hl.mp h)]
    · rw [if_neg h, k2 (hl'.mp (Int64.le_of_lt (Int64.not_le.mp h)))]
theorem iv_self {N : Nat} {X : Nat → Nat → Int64} {B : Nat → Int64} (hN : N ≤ 5) (hX : lz_X (2 * N) X = lz_T (2 * N) B) (hC : lr_Cl N (lz_T (2 * N) B)) (hn : lz_nf (2 * N) (lz_T (2 * N) B)) : lm_Cl N X (some (iv_mat N B)) := by
  have hb := lz_nf_B hn lz_T_gd
  refine iv_R1 (M := 2000000000000000) hN (by rw [hX, lz_O_id hC.2.1]) hC.1 (fun i j => lz_b_w (hb i j) (by omega)) (fun i hi => iv_op0 hX hi (lr_op_lt hi) (Or.inr (hC.2.1 i hi))) (lr_Is.self hC) hb (by omega) (by omega)
theorem iv_join {N k k2 k3 : Nat} {K B : Nat → Nat → Int64} {E Em : Nat → Int32} {R : Nat → Int64} {Km Bm K1 B1 : Nat → Int64} {E1 : Int32} (hN : N ≤ 5) (h : iv_A N K B E R Em) (hk : k < 8) (hk2 : k2 < 8) (hk3 : k3 < 8) (ha : lr_joinO Km Bm (2 * N) (K k2) (B k2) (E k2) (K k3) (B k3) (E k3) K1 B1 E1) : ∃ o, (∀ q2 q3, q2 < 8 → q3 < 8 → nI k2 = nI q2 → nI k3 = nI q3 → (Em q2 = 0 ∨ Em q3 = 0) → lm_Cl N (lm_jX Em (fun k => iv_mat N (B k)) q2 q3) o) ∧
    (∀ th r' R1 Em1, lm_joinO N R Em (nI k) (nI k2) (nI k3) o th r' R1 Em1 → (∀ K2 B2 E2 r, lr_tkO (2 * N) K1 B1 E1 (K k) (B k) K2 B2 E2 r → th = nI 0 ∧ r' = r ∧ iv_A N (va_up K k K2) (va_up B k B2) (va_up E k E2) R1 Em1) ∧ (E1 = 0 → ¬ lr_tooFar B1 (2 * N))) := by
  obtain ⟨h2, _, m2⟩ := h k2 hk2
  obtain ⟨h3, _, m3⟩ := h k3 hk3
  have hro : ∀ {o th r' R1 Em1}, lm_joinO N R Em (nI k) (nI k2) (nI k3) o th r' R1 Em1 → th = nI 0 ∧ ((¬ E k2 = 0 ∧ ¬ E k3 = 0 ∧ ∃ F, lm_kcO (nI 0) F N k R Em R1 Em1 r') ∨ ((E k2 = 0 ∨ E k3 = 0) ∧ ∃ F r1 r2, lm_res N o F r1 ∧ ((r1 = 0 ∧ r2 = nI 0) ∨ (¬ r1 = 0 ∧ r2 = nI 1)) ∧ lm_kcO r2 F N k R Em R1 Em1 r')) := by
    intro o th r' R1 Em1 hr
    rcases hr with ⟨w, _⟩ | ⟨a, b, c, ⟨l1, l2, l3, e1, e2, e3⟩, hr⟩
    · exact absurd ⟨iv_S hk, iv_S hk2, iv_S hk3⟩ w
    · have := iv_8 hk l1 e1
      have := iv_8 hk2 l2 e2
      have := iv_8 hk3 l3 e3
      subst_vars
      rw [m2, m3] at hr
      exact hr
  -- where one has a point
  have one : ∀ o, (E k2 = 0 ∨ E k3 = 0) → o = some (iv_mat N B1) → lr_Cl N (lz_T (2 * N) B1) → lz_nf (2 * N) (lz_T (2 * N) B1) → E1 = 0 → lz_T (2 * N) K1 = lz_O (2 * N) none (lz_T (2 * N) B1) → ∀ th r' R1 Em1, lm_joinO N R Em (nI k) (nI k2) (nI k3) o th r' R1 Em1 → (∀ K2 B2 E2 r, lr_tkO (2 * N) K1 B1 E1 (K k) (B k) K2 B2 E2 r → th = nI 0 ∧ r' = r ∧ iv_A N (va_up K k K2) (va_up B k B2) (va_up E k E2) R1 Em1) ∧ (E1 = 0 → ¬ lr_tooFar B1 (2 * N)) := by
    intro o hor ho hC hn he hK th r' R1 Em1 hr
    obtain ⟨q1, hr⟩ := hro hr
    rcases hr with ⟨w1, w2, _⟩ | ⟨_, F, r1, r2, w1, w2, w3⟩
    · rcases hor with w | w
      · exact absurd w w1
      · exact absurd w w2
    · have := iv_fin2 hN h he hK hC hn ho w1 (fun z => by
        rcases w2 with ⟨w, _⟩ | ⟨_, w⟩
        · exact absurd w z
        · rw [w]; decide) w3
      exact ⟨fun K2 B2 E2 r ht => ⟨q1, this.1 K2 B2 E2 r ht⟩, fun _ => this.2⟩
  rcases ha with ⟨e2, K0, ⟨rfl, rfl, rfl⟩, hkb⟩ | ⟨e2, e3, K0, ⟨rfl, rfl, rfl⟩, hkb⟩ | ⟨e2, e3, rfl, rfl, hkb⟩
  · by_cases e3 : E k3 = 0
    · obtain ⟨i3, n3⟩ := h3.st e3
      have hK : lz_T (2 * N) K1 = lz_O (2 * N) none (lz_T (2 * N) (lr_copy (B k3) Bm (2 * N * (2 * N)))) := by
        rcases hkb with ⟨w, _⟩ | ⟨_, w⟩
        · exact absurd e3 w
        · rw [w, lz_T_kb (by omega)]
      refine ⟨some (iv_mat N (lr_copy (B k3) Bm (2 * N * (2 * N)))), fun q2 q3 l2 l3 e2' e3' _ => ?_, one _ (Or.inr e3) rfl (by rw [lz_T_copy]; exact i3.1) (by rw [lz_T_copy]; exact n3) e3 hK⟩
      have := iv_8 hk2 l2 e2'
      have := iv_8 hk3 l3 e3'
      subst_vars
      refine iv_self hN ?_ (by rw [lz_T_copy]; exact i3.1) (by rw [lz_T_copy]; exact n3)
      unfold lm_jX
      rw [if_neg (by rw [m2]; exact e2), lz_T_copy]; rfl
    · refine ⟨none, fun q2 q3 l2 l3 e2' e3' w => ?_, fun th r' R1 Em1 hr => ⟨fun K2 B2 E2 r ht => ?_, fun w => absurd w e3⟩⟩
      · have := iv_8 hk2 l2 e2'
        have := iv_8 hk3 l3 e3'
        subst_vars
        rcases w with w | w
        · rw [m2] at w; exact absurd w e2
        · rw [m3] at w; exact absurd w e3
      · obtain ⟨q1, hr⟩ := hro hr
        rcases hr with ⟨_, _, F, w⟩ | ⟨w, _⟩
        · have := iv_fin0 h (h3.em e3).1 (by
            rcases hkb with ⟨_, w⟩ | ⟨w, _⟩
            · rw [w, lz_T_copy]; exact (h3.em e3).2
            · exact absurd w e3) w K2 B2 E2 r ht
          exact ⟨q1, this⟩
        · rcases w with w | w
          · exact absurd w e2
          · exact absurd w e3
  · obtain ⟨i2, n2⟩ := h2.st e2
    have hK : lz_T (2 * N) K1 = lz_O (2 * N) none (lz_T (2 * N) (lr_copy (B k2) Bm (2 * N * (2 * N)))) := by
      rcases hkb with ⟨w, _⟩ | ⟨_, w⟩
      · exact absurd e2 w
      · rw [w, lz_T_kb (by omega)]
    refine ⟨some (iv_mat N (lr_copy (B k2) Bm (2 * N * (2 * N)))), fun q2 q3 l2 l3 e2' e3' _ => ?_, one _ (Or.inl e2) rfl (by rw [lz_T_copy]; exact i2.1) (by rw [lz_T_copy]; exact n2) e2 hK⟩
    have := iv_8 hk2 l2 e2'
    have := iv_8 hk3 l3 e3'
    subst_vars
    refine iv_self hN ?_ (by rw [lz_T_copy]; exact i2.1) (by rw [lz_T_copy]; exact n2)
    unfold lm_jX
    rw [if_pos (by rw [m2]; exact e2), if_neg (by rw [m3]; exact e3), lz_T_copy]; rfl
  · obtain ⟨i2, n2⟩ := h2.st e2
    obtain ⟨i3, n3⟩ := h3.st e3
    have b2 := lz_nf_B n2 lz_T_gd
    have b3 := lz_nf_B n3 lz_T_gd
    have eG : lz_T (2 * N) (lr_symO (lr_gJ (B k2) (B k3) (2 * N)) (2 * N) (2 * N) (lr_allB Bm (2 * N))) = lz_X (2 * N) (lr_gJ (B k2) (B k3) (2 * N)) := lz_T_sym (fun i hi j hj => by
      unfold lr_gJ; rw [lz_T_sv i2.1.1 hi hj, lz_T_sv i3.1.1 hi hj])
    have eZ : lz_X (2 * N) (lr_gJ (B k2) (B k3) (2 * N)) = fun i j => lr_mx (lz_T (2 * N) (B k2) i j) (lz_T (2 * N) (B k3) i j) := by
      funext i j
      by_cases q : i < 2 * N ∧ j < 2 * N
      · rw [lz_X_in q.1 q.2, lz_T_in q.1 q.2, lz_T_in q.1 q.2]
        exact (lz_max (lz_nf_v n2 q.1 q.2) (lz_nf_v n3 q.1 q.2) (by omega)).1
      · rw [lz_X_out q, lz_T_out q, lz_T_out q]; rfl
    have eX : lz_X (2 * N) (fun i j => lm_mxx (iv_mat N (B k2) i j) (iv_mat N (B k3) i j)) = fun i j => lr_mx (lz_T (2 * N) (B k2) i j) (lz_T (2 * N) (B k3) i j) := by
      funext i j
      by_cases q : i < 2 * N ∧ j < 2 * N
      · rw [lz_X_in q.1 q.2, lz_T_in q.1 q.2, lz_T_in q.1 q.2]
        exact (lz_max (lz_nf_v n2 q.1 q.2) (lz_nf_v n3 q.1 q.2) (by omega)).2
      · rw [lz_X_out q, lz_T_out q, lz_T_out q]; rfl
    rw [eZ] at eG
    have hC : lr_Cl N (lz_T (2 * N) (lr_symO (lr_gJ (B k2) (B k3) (2 * N)) (2 * N) (2 * N) (lr_allB Bm (2 * N)))) := by rw [eG]; exact lr_mx_cl i2.1 i3.1
    have hn : lz_nf (2 * N) (lz_T (2 * N) (lr_symO (lr_gJ (B k2) (B k3) (2 * N)) (2 * N) (2 * N) (lr_allB Bm (2 * N)))) := by
      rw [eG]; exact fun i hi j hj => lr_mx_b (n2 i hi j hj) (n3 i hi j hj)
    refine ⟨some (iv_mat N (lr_symO (lr_gJ (B k2) (B k3) (2 * N)) (2 * N) (2 * N) (lr_allB Bm (2 * N)))), fun q2 q3 l2 l3 e2' e3' _ => ?_, one _ (Or.inl e2) rfl hC hn (by decide) ?_⟩
    · have := iv_8 hk2 l2 e2'
      have := iv_8 hk3 l3 e3'
      subst_vars
      refine iv_self hN ?_ hC hn
      unfold lm_jX
      rw [if_pos (by rw [m2]; exact e2), if_pos (by rw [m3]; exact e3), eG]; exact eX
    · rcases hkb with ⟨w, _⟩ | ⟨_, w⟩
      · exact absurd (by decide) w
      · rw [w, lz_T_kb (by omega)]
