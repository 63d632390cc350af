/-! sample, has, array, held together -/
def iv_P (N : Nat) (nu Pt : Nat → Int64) : Prop := ∀ i, i < N → Pt (i + 1) = nu i ∧ -5000000000000000 ≤ (nu i).toInt ∧ (nu i).toInt ≤ 5000000000000000
theorem lr_Is_congr {N : Nat} {X U V : lr_M} (e : ∀ i, i < 2 * N → ∀ j, j < 2 * N → U i j = V i j) (h : lr_Is N X U) : lr_Is N X V := ⟨lr_Cl_congr e h.1, fun i hi j hj => by rw [← e i hi j hj]; exact h.2.1 i hi j hj, fun Y hY hYX i hi j hj => by rw [← e i hi j hj]; exact h.2.2 Y hY hYX i hi j hj⟩
def lg_G (W : lr_M) (π : Nat → Int) : Nat → Nat → Option Int
  | 0 => fun q => lr_hf (W q q)
  | t + 1 => lg_s W (lg_G W π t) t (π t)
theorem lg_G0 {N : Nat} {W : lr_M} {π : Nat → Int} (hW : lr_Cl N W) : lg_ok N W (lg_G W π 0) := ⟨fun i hi p hp => lp_sh hW hp hi, fun i hi => lp_hh hW hi, fun i hi => lr_le_refl _⟩
theorem lz_vneg {c : Int64} {x : Int} (h : c.toInt = x) (h1 : -4611686018427387904 < x) (h2 : x < 4611686018427387904) : lz_v (-c) = some (-x) := by
  have e : (-c).toInt = -x := by rw [lz_neg (by omega), h]
  rw [lz_v_s (fun q => by rw [q, lz_ET] at e; omega), e]
theorem lg_gbs {N : Nat} {B nus : Nat → Int64} {π : Nat → Int} (hC : lr_Cl N (lz_T (2 * N) B)) (hn : lz_nf (2 * N) (lz_T (2 * N) B)) {q : Nat} (hq : q < 2 * N) : ∀ t, t ≤ N → (∀ i, i < t → (nus i).toInt = π i ∧ -5000000000000000 ≤ π i ∧ π i ≤ 5000000000000000) → lz_v (lr_gbs B nus (2 * N) q (2 * t)) = lg_G (lz_T (2 * N) B) π t q ∧ lz_b 7000000000000000 (lg_G (lz_T (2 * N) B) π t q)
  | 0, _, _ => by
    have hb := lz_nf_B hn lz_T_gd q q
    have e := hC.e2 q hq
    have : lz_v (lr_half B (2 * N) q) = lr_hf (lz_T (2 * N) B q q) := by
      unfold lr_half
      rw [lz_T_in hq hq] at e ⊢
      exact lz_half (lz_nf_v hn hq hq) (by omega) e
    exact ⟨this, lz_b_w (lz_b_hf hb (by omega)) (by omega)⟩
  | t + 1, ht, hπ => by
    obtain ⟨i1, i2⟩ := lg_gbs hC hn hq t (by omega) (fun i hi => hπ i (by omega))
    obtain ⟨p1, p2, p3⟩ := hπ t (by omega)
    have hb := lz_nf_B hn lz_T_gd
    have n0 : lr_num nus (2 * t) = nus t := by unfold lr_num; rw [if_pos (by omega), show 2 * t / 2 = t by omega]
    have n1 : lr_num nus (2 * t + 1) = -nus t := by unfold lr_num; rw [if_neg (by omega), show (2 * t + 1) / 2 = t by omega]
    have v0 : lz_v (-lr_num nus (2 * t)) = some (-π t) := by rw [n0]; exact lz_vneg p1 (by omega) (by omega)
    have v1 : lz_v (-lr_num nus (2 * t + 1)) = some (π t) := by
      rw [n1, show - -nus t = nus t by simp, lz_v_s (fun w => by rw [w, lz_ET] at p1; omega), p1]
    have w0 : 2 * t < 2 * N := by omega
    have w1 : 2 * t + 1 < 2 * N := by omega
    have c0 := lz_plus (c := B (q * (2 * N) + 2 * t)) (d := -lr_num nus (2 * t)) (M := 2000000000000000) (M' := 5000000000000000) (lz_nf_v hn hq w0) (by rw [v0]; exact lz_b_s.mpr (by omega)) (by omega)
    have c1 := lz_plus (c := B (q * (2 * N) + (2 * t + 1))) (d := -lr_num nus (2 * t + 1)) (M := 2000000000000000) (M' := 5000000000000000) (lz_nf_v hn hq w1) (by rw [v1]; exact lz_b_s.mpr (by omega)) (by omega)
    rw [v0, ← lz_T_in hq w0] at c0
    rw [v1, ← lz_T_in hq w1] at c1
    have b0 : lz_b 7000000000000000 (lr_ad (lz_T (2 * N) B q (2 * t)) (some (-π t))) := lz_b_w (lz_b_ad (hb q (2 * t)) ((lz_b_s (M := 5000000000000000)).mpr (by omega))) (by omega)
    have b1 : lz_b 7000000000000000 (lr_ad (lz_T (2 * N) B q (2 * t + 1)) (some (π t))) := lz_b_w (lz_b_ad (hb q (2 * t + 1)) ((lz_b_s (M := 5000000000000000)).mpr (by omega))) (by omega)
    have m0 := lz_min (c := lr_gbs B nus (2 * N) q (2 * t)) (d := lr_plus (B (q * (2 * N) + 2 * t)) (-lr_num nus (2 * t))) (M := 7000000000000000) (M' := 7000000000000000) (by rw [i1]; exact i2) (by rw [c0]; exact b0) (by omega) (by omega)
    rw [i1, c0] at m0
    have m1 := lz_min (c := lr_min (lr_gbs B nus (2 * N) q (2 * t)) (lr_plus (B (q * (2 * N) + 2 * t)) (-lr_num nus (2 * t)))) (d := lr_plus (B (q * (2 * N) + (2 * t + 1))) (-lr_num nus (2 * t + 1))) (M := 7000000000000000) (M' := 7000000000000000) (by rw [m0]; exact lz_b_mn i2 b0) (by rw [c1]; exact b1) (by omega) (by omega)
    rw [m0, c1] at m1
    exact ⟨m1, lz_b_mn (lz_b_mn i2 b0) b1⟩
def lg_nu (B nu : Nat → Int64) (N t : Nat) : Nat → Int64 := lr_smpI B nu (2 * N) t
theorem lg_nu_at {B nu : Nat → Int64} {N : Nat} : ∀ {t i : Nat}, i < t → lg_nu B nu N t i = lr_smp B (lg_nu B nu N i) (2 * N) (1 + i)
  | 0, i, h => absurd h (by omega)
  | t + 1, i, h => by
    show vp_updL (lg_nu B nu N t) (1 + t - 1) (lr_smp B (lg_nu B nu N t) (2 * N) (1 + t)) i = _
    rw [show 1 + t - 1 = t by omega]
    by_cases e : i = t
    · subst e; rw [vl_eq]
    · rw [vl_ne e]; exact lg_nu_at (by omega)
theorem lg_nu_ge {B nu : Nat → Int64} {N : Nat} : ∀ {t i : Nat}, t ≤ i → lg_nu B nu N t i = nu i
  | 0, i, h => rfl
  | t + 1, i, h => by
    show vp_updL (lg_nu B nu N t) (1 + t - 1) (lr_smp B (lg_nu B nu N t) (2 * N) (1 + t)) i = _
    rw [show 1 + t - 1 = t by omega, vl_ne (by omega)]; exact lg_nu_ge (by omega)
def lg_p (B nu : Nat → Int64) (N t : Nat) : Int := (lr_smp B (lg_nu B nu N t) (2 * N) (1 + t)).toInt
theorem lg_eq {a b : Option Int} {x : Int} (h1 : lr_le a (some x)) (h2 : lr_le b (some (-x))) (h3 : lr_le (some 0) (lr_ad a b)) : a = some x ∧ b = some (-x) := by
  cases a <;> cases b <;> simp_all [lr_le, lr_ad]; omega
theorem lg_C {N : Nat} {B nu : Nat → Int64} (hN : N ≤ 5) (hC : lr_Cl N (lz_T (2 * N) B)) (hn : lz_nf (2 * N) (lz_T (2 * N) B)) : ∀ t, t ≤ N → lg_ok N (lz_T (2 * N) B) (lg_G (lz_T (2 * N) B) (lg_p B nu N) t) ∧ (∀ s, s < t → (-(((s : Int) + 1) * 1000000000000000) ≤ lg_p B nu N s ∧ lg_p B nu N s ≤ ((s : Int) + 1) * 1000000000000000) ∧ lg_G (lz_T (2 * N) B) (lg_p B nu N) t (2 * s) = some (lg_p B nu N s) ∧ lg_G (lz_T (2 * N) B) (lg_p B nu N) t (2 * s + 1) = some (-lg_p B nu N s)) ∧ (∀ q, 2 * t ≤ q → q < 2 * N → lz_b (((t : Int) + 1) * 1000000000000000) (lg_G (lz_T (2 * N) B) (lg_p B nu N) t q)) ∧
    (t < N → lr_le (some (lg_p B nu N t)) (lg_G (lz_T (2 * N) B) (lg_p B nu N) t (2 * t)) ∧ lr_le (some (-lg_p B nu N t)) (lg_G (lz_T (2 * N) B) (lg_p B nu N) t (2 * t + 1)) ∧ -(((t : Int) + 1) * 1000000000000000) ≤ lg_p B nu N t ∧ lg_p B nu N t ≤ ((t : Int) + 1) * 1000000000000000 ∧ lz_v (lr_gbF B (lg_nu B nu N t) (2 * N) (2 * t)) = lg_G (lz_T (2 * N) B) (lg_p B nu N) t (2 * t) ∧ lz_v (lr_gbF B (lg_nu B nu N t) (2 * N) (2 * t + 1)) = lg_G (lz_T (2 * N) B) (lg_p B nu N) t (2 * t + 1)) := by
  -- the number that is chosen
  have pick : ∀ t, t < N → lg_ok N (lz_T (2 * N) B) (lg_G (lz_T (2 * N) B) (lg_p B nu N) t) → (∀ s, s < t → -5000000000000000 ≤ lg_p B nu N s ∧ lg_p B nu N s ≤ 5000000000000000) → (∀ q, 2 * t ≤ q → q < 2 * N → lz_b (((t : Int) + 1) * 1000000000000000) (lg_G (lz_T (2 * N) B) (lg_p B nu N) t q)) → lr_le (some (lg_p B nu N t)) (lg_G (lz_T (2 * N) B) (lg_p B nu N) t (2 * t)) ∧ lr_le (some (-lg_p B nu N t)) (lg_G (lz_T (2 * N) B) (lg_p B nu N) t (2 * t + 1)) ∧ -(((t : Int) + 1) * 1000000000000000) ≤ lg_p B nu N t ∧ lg_p B nu N t ≤ ((t : Int) + 1) * 1000000000000000 ∧ lz_v (lr_gbF B (lg_nu B nu N t) (2 * N) (2 * t)) = lg_G (lz_T (2 * N) B) (lg_p B nu N) t (2 * t) ∧ lz_v (lr_gbF B (lg_nu B nu N t) (2 * N) (2 * t + 1)) = lg_G (lz_T (2 * N) B) (lg_p B nu N) t (2 * t + 1) := by
    intro t ht hok hπ hb
    have hpi : ∀ i, i < t → (lg_nu B nu N t i).toInt = lg_p B nu N i ∧ -5000000000000000 ≤ lg_p B nu N i ∧ lg_p B nu N i ≤ 5000000000000000 := fun i hi => ⟨by rw [lg_nu_at hi]; rfl, hπ i hi⟩
    have gb : ∀ q, q < 2 * N → q - q % 2 = 2 * t → lz_v (lr_gbF B (lg_nu B nu N t) (2 * N) q) = lg_G (lz_T (2 * N) B) (lg_p B nu N) t q := fun q hq e => by
      unfold lr_gbF; rw [e]; exact (lg_gbs hC hn hq t (by omega) hpi).1
    have g0 := gb (2 * t) (by omega) (by omega)
    have g1 := gb (2 * t + 1) (by omega) (by omega)
    have e0 : lr_pl (nI (1 + t)) = 2 * t := by rw [lr_pl_nI (by omega) (by omega)]; omega
    have e1 : lr_pl (-nI (1 + t)) = 2 * t + 1 := by rw [lr_pl_mI (by omega) (by omega)]; omega
    have b0 := hb (2 * t) (by omega) (by omega)
    have b1 := hb (2 * t + 1) (by omega) (by omega)
    have hs := hok.2.1 (2 * t) (by omega)
    rw [lg_2t] at hs
    have hp : lg_p B nu N t = (lr_smp B (lg_nu B nu N t) (2 * N) (1 + t)).toInt := rfl
    unfold lr_smp at hp
    rw [e0, e1] at hp
    have hT : ((t : Int) + 1) * 1000000000000000 ≤ 5000000000000000 := by omega
    have hT0 : 0 ≤ ((t : Int) + 1) * 1000000000000000 := by omega
    by_cases w1 : lr_gbF B (lg_nu B nu N t) (2 * N) (2 * t + 1) = lr_E
    · rw [if_pos w1] at hp
      rw [w1, lz_v_E] at g1
      by_cases w0 : lr_gbF B (lg_nu B nu N t) (2 * N) (2 * t) = lr_E
      · rw [if_pos w0] at hp
        rw [w0, lz_v_E] at g0
        have hp : lg_p B nu N t = 0 := hp.trans (by decide)
        rw [hp, w0, w1, lz_v_E, ← g0, ← g1]
        exact ⟨lr_le_none _, lr_le_none _, by omega, by omega, rfl, rfl⟩
      · rw [if_neg w0] at hp
        rw [w1, lz_v_E, ← g1]
        rw [lz_v_s w0, ← hp] at g0
        rw [lz_v_s w0, ← hp, ← g0]
        have := b0 _ g0.symm
        exact ⟨lr_le_refl _, lr_le_none _, by omega, by omega, rfl, rfl⟩
    · rw [if_neg w1] at hp
      have g1' := g1
      rw [lz_v_s w1] at g1'
      have := b1 _ g1'.symm
      rw [lz_neg (by omega)] at hp
      have hq : (lr_gbF B (lg_nu B nu N t) (2 * N) (2 * t + 1)).toInt = -lg_p B nu N t := by omega
      rw [hq] at g1'
      refine ⟨?_, by rw [← g1']; exact lr_le_refl _, by omega, by omega, g0, g1⟩
      rw [← g1'] at hs
      generalize lg_G (lz_T (2 * N) B) (lg_p B nu N) t (2 * t) = a at *
      cases a <;> simp_all [lr_le, lr_ad]; omega
  intro t
  induction t with
  | zero =>
    intro h0
    have ok0 := lg_G0 (π := lg_p B nu N) hC
    have hb0 : ∀ q, 2 * 0 ≤ q → q < 2 * N → lz_b ((((0 : Nat) : Int) + 1) * 1000000000000000) (lg_G (lz_T (2 * N) B) (lg_p B nu N) 0 q) := fun q _ hq => by
      show lz_b _ (lr_hf (lz_T (2 * N) B q q))
      have b := hn q hq q hq
      rw [if_pos rfl] at b
      cases e : lz_T (2 * N) B q q with
      | none => exact lz_b_n
      | some x =>
        have := b x e
        exact lz_b_s.mpr (by omega)
    exact ⟨ok0, fun s hs => absurd hs (by omega), hb0, fun h => pick 0 h ok0 (fun s hs => absurd hs (by omega)) hb0⟩
  | succ t ih =>
    intro ht
    obtain ⟨i1, i2, i3, i4⟩ := ih (by omega)
    obtain ⟨p1, p2, p3, p4, _, _⟩ := i4 (by omega)
    obtain ⟨s1, s2, s3⟩ := lg_step hC i1 (by omega) p1 p2
    have hfix : ∀ s, s < t + 1 → (-(((s : Int) + 1) * 1000000000000000) ≤ lg_p B nu N s ∧ lg_p B nu N s ≤ ((s : Int) + 1) * 1000000000000000) ∧ lg_G (lz_T (2 * N) B) (lg_p B nu N) (t + 1) (2 * s) = some (lg_p B nu N s) ∧ lg_G (lz_T (2 * N) B) (lg_p B nu N) (t + 1) (2 * s + 1) = some (-lg_p B nu N s) := fun s hs => by
      by_cases e : s = t
      · subst e; exact ⟨⟨p3, p4⟩, s2, s3⟩
      · obtain ⟨j1, j2, j3⟩ := i2 s (by omega)
        have l1 : lr_le (lg_G (lz_T (2 * N) B) (lg_p B nu N) (t + 1) (2 * s)) (some (lg_p B nu N s)) := by rw [← j2]; exact lg_s_1
        have l2 : lr_le (lg_G (lz_T (2 * N) B) (lg_p B nu N) (t + 1) (2 * s + 1)) (some (-lg_p B nu N s)) := by rw [← j3]; exact lg_s_1
        have l3 := s1.2.1 (2 * s) (by omega)
        rw [lg_2t] at l3
        exact ⟨j1, lg_eq l1 l2 l3⟩
    have hbd : ∀ q, 2 * (t + 1) ≤ q → q < 2 * N → lz_b (((((t + 1 : Nat)) : Int) + 1) * 1000000000000000) (lg_G (lz_T (2 * N) B) (lg_p B nu N) (t + 1) q) := fun q hq1 hq2 => by
      have g := i3 q (by omega) hq2
      have a := hn q hq2 (2 * t) (by omega)
      have b := hn q hq2 (2 * t + 1) (by omega)
      rw [if_neg (by omega)] at a b
      have c1 : lz_b (((((t + 1 : Nat)) : Int) + 1) * 1000000000000000) (lr_ad (lz_T (2 * N) B q (2 * t)) (some (-lg_p B nu N t))) := lz_b_w (lz_b_ad a ((lz_b_s (M := ((t : Int) + 1) * 1000000000000000)).mpr (by omega))) (by omega)
      have c2 : lz_b (((((t + 1 : Nat)) : Int) + 1) * 1000000000000000) (lr_ad (lz_T (2 * N) B q (2 * t + 1)) (some (lg_p B nu N t))) := lz_b_w (lz_b_ad b ((lz_b_s (M := ((t : Int) + 1) * 1000000000000000)).mpr (by omega))) (by omega)
      exact lz_b_mn (lz_b_mn (lz_b_w g (by omega)) c1) c2
    refine ⟨s1, hfix, hbd, fun h => pick (t + 1) h s1 (fun s hs => ?_) hbd⟩
    have := (hfix s hs).1
    omega
/-- the reference's matrices on the way -/
def lg_Y (N : Nat) (B nu : Nat → Int64) (t : Nat) : Nat → Nat → Int64 := if t = 0 then iv_mat N B else fun i j => lz_i (lz_z (lz_T (2 * N) B) (lg_G (lz_T (2 * N) B) (lg_p B nu N) t) i j)
theorem lg_z0 {N : Nat} {W : lr_M} {π : Nat → Int} (hW : lr_Cl N W) {i j : Nat} (hi : i < 2 * N) (hj : j < 2 * N) : lz_z W (lg_G W π 0) i j = W i j := by
  unfold lz_z
  by_cases w : i = j
  · subst w
    rw [if_pos rfl]; exact lz_dbhf (hW.e2 i hi)
  · rw [if_neg w]; exact lr_mn_of (lp_h2 hW hi hj)
theorem lg_Yv {N : Nat} {B nu : Nat → Int64} (hN : N ≤ 5) (hC : lr_Cl N (lz_T (2 * N) B)) (hn : lz_nf (2 * N) (lz_T (2 * N) B)) {t : Nat} (ht : t ≤ N) : (∀ i, i < 2 * N → ∀ j, j < 2 * N → lz_v (lg_Y N B nu t i j) = lz_z (lz_T (2 * N) B) (lg_G (lz_T (2 * N) B) (lg_p B nu N) t) i j) ∧ (∀ i, i < 2 * N → ∀ j, j < 2 * N → lz_b 10000000000000000 (lz_z (lz_T (2 * N) B) (lg_G (lz_T (2 * N) B) (lg_p B nu N) t) i j)) := by
  obtain ⟨c1, c2, c3, _⟩ := lg_C (nu := nu) hN hC hn t ht
  have hb := lz_nf_B hn lz_T_gd
  have g5 : ∀ q, q < 2 * N → lz_b 5000000000000000 (lg_G (lz_T (2 * N) B) (lg_p B nu N) t q) := fun q hq => by
    by_cases w : 2 * t ≤ q
    · exact lz_b_w (c3 q w hq) (by omega)
    · obtain ⟨a, b, c⟩ := c2 (q / 2) (by omega)
      by_cases w2 : q % 2 = 0
      · rw [show q = 2 * (q / 2) by omega, b]; exact lz_b_s.mpr (by omega)
      · rw [show q = 2 * (q / 2) + 1 by omega, c]; exact lz_b_s.mpr (by omega)
  have bd : ∀ i, i < 2 * N → ∀ j, j < 2 * N → lz_b 10000000000000000 (lz_z (lz_T (2 * N) B) (lg_G (lz_T (2 * N) B) (lg_p B nu N) t) i j) := fun i hi j hj => by
    rcases lz_z_or (W := lz_T (2 * N) B) (G := lg_G (lz_T (2 * N) B) (lg_p B nu N) t) (i := i) (j := j) with e | e <;> rw [e]
    · exact lz_b_w (hb i j) (by omega)
    · exact lz_b_w (lz_b_ad (g5 i hi) (g5 j hj)) (by omega)
  refine ⟨fun i hi j hj => ?_, bd⟩
  unfold lg_Y
  by_cases w : t = 0
  · rw [if_pos w, w, lg_z0 hC hi hj, lz_T_in hi hj]; rfl
  · rw [if_neg w]; exact lz_vi (bd i hi j hj) (by omega)
theorem lg_V {N : Nat} {B nu : Nat → Int64} (hN : N ≤ 5) (hC : lr_Cl N (lz_T (2 * N) B)) (hn : lz_nf (2 * N) (lz_T (2 * N) B)) {t : Nat} (ht : t < N) : lm_smV (lg_Y N B nu t) (1 + t) = lr_smp B (lg_nu B nu N t) (2 * N) (1 + t) := by
  obtain ⟨c1, c2, c3, c4⟩ := lg_C (nu := nu) hN hC hn t (by omega)
  obtain ⟨_, _, _, _, g0, g1⟩ := c4 ht
  obtain ⟨yv, yb⟩ := lg_Yv (nu := nu) hN hC hn (show t ≤ N by omega)
  have e0 : lr_pl (nI (1 + t)) = 2 * t := by rw [lr_pl_nI (by omega) (by omega)]; omega
  have e1 : lr_pl (-nI (1 + t)) = 2 * t + 1 := by rw [lr_pl_mI (by omega) (by omega)]; omega
  have nk := nI_nz (a := 1 + t) (by omega) (by omega)
  have mk := mI_nz (a := 1 + t) (by omega) (by omega)
  have hf : ∀ q, q < 2 * N → lz_v (lm_hf (lg_Y N B nu t q q)) = lg_G (lz_T (2 * N) B) (lg_p B nu N) t q := fun q hq => by
    unfold lm_hf
    have v := yv q hq q hq
    have zd : lz_z (lz_T (2 * N) B) (lg_G (lz_T (2 * N) B) (lg_p B nu N) t) q q = lr_db (lg_G (lz_T (2 * N) B) (lg_p B nu N) t q) := by unfold lz_z; rw [if_pos rfl]
    rw [lz_half (M := 10000000000000000) (by rw [v]; exact yb q hq q hq) (by omega) (by
      rw [v, zd]; intro x hx
      cases e : lg_G (lz_T (2 * N) B) (lg_p B nu N) t q with
      | none => rw [e] at hx; simp [lr_db] at hx
      | some y => rw [e] at hx; simp [lr_db] at hx; omega), v, zd, lr_hd]
  have b0 : lm_bd (lg_Y N B nu t) (nI (1 + t)) (nI 0) = lr_gbF B (lg_nu B nu N t) (2 * N) (2 * t) := by
    apply lz_v_inj
    unfold lm_bd
    rw [if_neg (fun e => nk (by rw [e]; decide)), if_neg nk, if_pos (by decide), e0, hf _ (by omega), g0]
  have b1 : lm_bd (lg_Y N B nu t) (-nI (1 + t)) (nI 0) = lr_gbF B (lg_nu B nu N t) (2 * N) (2 * t + 1) := by
    apply lz_v_inj
    unfold lm_bd
    rw [if_neg (fun e => mk (by rw [e]; decide)), if_neg mk, if_pos (by decide), e1, hf _ (by omega), g1]
  unfold lm_smV lr_smp
  rw [b0, b1, e0, e1]
theorem lg_Cl {N : Nat} {B nu : Nat → Int64} (hN : N ≤ 5) (hC : lr_Cl N (lz_T (2 * N) B)) (hn : lz_nf (2 * N) (lz_T (2 * N) B)) {t : Nat} (ht : t < N) : lm_Cl N (lm_smM (lg_Y N B nu t) (1 + t)) (some (lg_Y N B nu (t + 1))) := by
  obtain ⟨c1, c2, c3, c4⟩ := lg_C (nu := nu) hN hC hn t (by omega)
  obtain ⟨p1, p2, p3, p4, g0, g1⟩ := c4 ht
  obtain ⟨yv, yb⟩ := lg_Yv (nu := nu) hN hC hn (show t ≤ N by omega)
  obtain ⟨yv', yb'⟩ := lg_Yv (nu := nu) hN hC hn (show t + 1 ≤ N by omega)
  have hV := lg_V (nu := nu) hN hC hn ht
  have e0 : lr_pl (nI (1 + t)) = 2 * t := by rw [lr_pl_nI (by omega) (by omega)]; omega
  have e1 : lr_pl (-nI (1 + t)) = 2 * t + 1 := by rw [lr_pl_mI (by omega) (by omega)]; omega
  have nk := nI_nz (a := 1 + t) (by omega) (by omega)
  have mk := mI_nz (a := 1 + t) (by omega) (by omega)
  have hw0 : 2 * t < 2 * N := by omega
  have hw1 : 2 * t + 1 < 2 * N := by omega
  have hp : (lm_smV (lg_Y N B nu t) (1 + t)).toInt = lg_p B nu N t := by rw [hV]; rfl
  have ed : ∀ {c : Int64} {x : Int}, c.toInt = x → -5000000000000000 ≤ x → x ≤ 5000000000000000 → lz_v (2 * c) = some (2 * x) := fun {c} {x} hc h1 h2 => by
    have := lz_dbl (M := 5000000000000000) (c := c) (by rw [lz_v_s (fun q => by rw [q, lz_ET] at hc; omega), hc]; exact lz_b_s.mpr (by omega)) (by omega)
    rw [if_neg (fun q => by rw [q, lz_ET] at hc; omega), lz_v_s (c := c) (fun q => by rw [q, lz_ET] at hc; omega), hc] at this
    exact this
  have v2 := ed hp (by omega) (by omega)
  have v2' := ed (c := -lm_smV (lg_Y N B nu t) (1 + t)) (x := -lg_p B nu N t) (by rw [lz_neg (by omega), hp]) (by omega) (by omega)
  have x1 : lm_x1 (nI (1 + t)) (nI 0) = nI (1 + t) := by unfold lm_x1; rw [if_neg nk]
  have x2 : lm_x1 (nI 0) (nI (1 + t)) = nI (1 + t) := by unfold lm_x1; rw [if_pos (by decide)]
  have x3 : lm_x1 (-nI (1 + t)) (nI 0) = -nI (1 + t) := by unfold lm_x1; rw [if_neg mk]
  have x4 : lm_x1 (nI 0) (-nI (1 + t)) = -nI (1 + t) := by unfold lm_x1; rw [if_pos (by decide)]
  have a1 : ∀ v, lm_av (nI (1 + t)) (nI 0) v = 2 * v := fun v => by unfold lm_av; rw [if_neg nk, if_pos (by decide)]
  have a2 : ∀ v, lm_av (-nI (1 + t)) (nI 0) v = 2 * v := fun v => by unfold lm_av; rw [if_neg mk, if_pos (by decide)]
  have hM : lm_smM (lg_Y N B nu t) (1 + t) = lm_adM (lm_adM (lg_Y N B nu t) (2 * t) (2 * t) (2 * lm_smV (lg_Y N B nu t) (1 + t))) (2 * t + 1) (2 * t + 1) (2 * -lm_smV (lg_Y N B nu t) (1 + t)) := by
    unfold lm_smM lm_addM
    rw [x1, x2, x3, x4, a1, a2, e0, e1]
  have yX : ∀ i, i < 2 * N → ∀ j, j < 2 * N → lz_X (2 * N) (lg_Y N B nu t) i j = lz_z (lz_T (2 * N) B) (lg_G (lz_T (2 * N) B) (lg_p B nu N) t) i j := fun i hi j hj => by rw [lz_X_in hi hj]; exact yv i hi j hj
  have m1 := lz_adM (m := 2 * N) (X := lg_Y N B nu t) (v := 2 * lm_smV (lg_Y N B nu t) (1 + t)) (M := 10000000000000000) (M' := 10000000000000000) hw0 hw0 rfl (by rw [yX _ hw0 _ hw0]; exact yb _ hw0 _ hw0) (by rw [v2]; exact lz_b_s.mpr (by omega)) (by omega) (by omega)
  have m2 := lz_adM (m := 2 * N) (X := lm_adM (lg_Y N B nu t) (2 * t) (2 * t) (2 * lm_smV (lg_Y N B nu t) (1 + t))) (v := 2 * -lm_smV (lg_Y N B nu t) (1 + t)) (M := 10000000000000000) (M' := 10000000000000000) hw1 hw1 rfl (by rw [m1, lq_up_ne (by omega), yX _ hw1 _ hw1]; exact yb _ hw1 _ hw1) (by rw [v2']; exact lz_b_s.mpr (by omega)) (by omega) (by omega)
  rw [← hM, m1, v2, v2', lq_up_ne (i := 2 * t) (k := 2 * t) (x := 2 * t + 1) (y := 2 * t + 1) (by omega), yX _ hw0 _ hw0, yX _ hw1 _ hw1] at m2
  have hXc : ∀ i, i < 2 * N → ∀ j, j < 2 * N → lz_X (2 * N) (lm_smM (lg_Y N B nu t) (1 + t)) i j = lq_up (lq_up (lz_z (lz_T (2 * N) B) (lg_G (lz_T (2 * N) B) (lg_p B nu N) t)) (2 * t) (2 * t) (lr_mn (lz_z (lz_T (2 * N) B) (lg_G (lz_T (2 * N) B) (lg_p B nu N) t) (2 * t) (2 * t)) (some (2 * lg_p B nu N t)))) (2 * t + 1) (2 * t + 1) (lr_mn (lz_z (lz_T (2 * N) B) (lg_G (lz_T (2 * N) B) (lg_p B nu N) t) (2 * t + 1) (2 * t + 1)) (some (2 * -lg_p B nu N t))) i j := fun i hi j hj => by
    rw [m2]
    unfold lq_up
    by_cases w1 : (i = 2 * t + 1 ∧ j = 2 * t + 1) ∨ (i = 2 * t + 1 ∧ j = 2 * t + 1)
    · rw [if_pos w1, if_pos w1]
    · rw [if_neg w1, if_neg w1]
      by_cases w2 : (i = 2 * t ∧ j = 2 * t) ∨ (i = 2 * t ∧ j = 2 * t)
      · rw [if_pos w2, if_pos w2]
      · rw [if_neg w2, if_neg w2]; exact yX i hi j hj
  have his := lg_is hC c1 ht p1 p2 hXc
  have zC := lz_z_cl hC c1
  have hopp : ∀ i, i < 2 * N → lz_X (2 * N) (lm_smM (lg_Y N B nu t) (1 + t)) i (lr_op i) = some 0 := fun i hi => by
    have := lr_op_ne i
    rw [hXc i hi _ (lr_op_lt hi), lq_up_ne (by omega), lq_up_ne (by omega)]
    exact zC.2.1 i hi
  have hsy : lr_Sym (2 * N) (lz_X (2 * N) (lm_smM (lg_Y N B nu t) (1 + t))) := fun i hi j hj => by
    rw [hXc i hi j hj, hXc j hj i hi]
    exact lq_up_sym (lq_up_sym zC.1) i hi j hj
  have hbd : lz_B 10000000000000000 (lz_X (2 * N) (lm_smM (lg_Y N B nu t) (1 + t))) := fun i j => by
    by_cases q : i < 2 * N ∧ j < 2 * N
    · rw [hXc i q.1 j q.2]
      unfold lq_up
      split
      · exact lz_b_mn (yb _ hw1 _ hw1) (lz_b_s.mpr (by omega))
      · split
        · exact lz_b_mn (yb _ hw0 _ hw0) (lz_b_s.mpr (by omega))
        · exact yb i q.1 j q.2
    · rw [lz_X_out q]; exact lz_b_n
  have yX' : ∀ i, i < 2 * N → ∀ j, j < 2 * N → lz_z (lz_T (2 * N) B) (lg_G (lz_T (2 * N) B) (lg_p B nu N) (t + 1)) i j = lz_X (2 * N) (lg_Y N B nu (t + 1)) i j := fun i hi j hj => by rw [lz_X_in hi hj]; exact (yv' i hi j hj).symm
  refine lz_RT1 (M := 10000000000000000) hN ?_ ?_ (fun i hi => iv_op0 rfl hi (lr_op_lt hi) (Or.inr (hopp i hi))) ?_ (fun i j => ?_) (by omega) (by omega)
  · rw [lz_O_id hopp]; exact hsy
  · rw [lz_O_id hopp]; exact hbd
  · rw [lz_O_id hopp]; exact lr_Is_congr yX' his
  · by_cases q : i < 2 * N ∧ j < 2 * N
    · rw [← yX' i q.1 j q.2]; exact yb' i q.1 j q.2
    · rw [lz_X_out q]; exact lz_b_n
theorem iv_sample {N k : Nat} {K B : Nat → Nat → Int64} {E Em : Nat → Int32} {R nu Pt : Nat → Int64} (hN : N ≤ 5) (h : iv_A N K B E R Em) (hk : k < 8) (he : E k = 0) (hP : iv_P N nu Pt) : (∀ q, q < 8 → nI k = nI q → Em q = 0 → lg_Y N (B k) nu 0 = iv_mat N (B q) ∧ ∀ t, t < N → lm_Cl N (lm_smM (lg_Y N (B k) nu t) (1 + t)) (some (lg_Y N (B k) nu (t + 1)))) ∧ iv_P N (lr_smpI (B k) nu (2 * N) N) (lm_smP (lg_Y N (B k) nu) N Pt) := by
  obtain ⟨h2, _, m2⟩ := h k hk
  obtain ⟨i2, n2⟩ := h2.st he
  refine ⟨fun q hq e _ => ?_, fun i hi => ?_⟩
  · rw [← iv_8 hk hq e]
    exact ⟨if_pos rfl, fun t ht => lg_Cl hN i2.1 n2 ht⟩
  · have hpt : ∀ t, t ≤ N → ∀ i, i < t → lm_smP (lg_Y N (B k) nu) t Pt (i + 1) = lg_nu (B k) nu N t i := by
      intro t
      induction t with
      | zero => intro _ i hi; omega
      | succ t ih =>
        intro ht i hi
        show vp_updL (lm_smP (lg_Y N (B k) nu) t Pt) (1 + t) (lm_smV (lg_Y N (B k) nu t) (1 + t)) (i + 1) = _
        rw [lg_nu_at hi]
        by_cases e : i = t
        · subst e
          rw [show i + 1 = 1 + i by omega, vl_eq, lg_V hN i2.1 n2 (by omega)]
        · rw [vl_ne (by omega), ih (by omega) i (by omega), lg_nu_at (by omega)]
    refine ⟨hpt N (Nat.le_refl _) i hi, ?_⟩
    have := ((lg_C (nu := nu) hN i2.1 n2 N (Nat.le_refl _)).2.1 i hi).1
    have e : (lr_smpI (B k) nu (2 * N) N i).toInt = lg_p (B k) nu N i := by
      show (lg_nu (B k) nu N N i).toInt = _
      rw [lg_nu_at hi]; rfl
    rw [e]; omega
