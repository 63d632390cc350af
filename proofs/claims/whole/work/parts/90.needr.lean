/-! needed, held together: the rows that are left -/
theorem nd_vv {N : Nat} {X : Nat → Nat → Int64} {κ : Nat × Nat} {M : Int} (hN : N ≤ 5) (hk : κ ∈ nd_k (2 * N)) (he : lz_e2 (2 * N) (lz_X (2 * N) X)) (hb : lz_B M (lz_X (2 * N) X)) (hM : M < 4611686018427387904) : lz_v (nd_v X κ) = lz_hv κ.1 κ.2 (lz_X (2 * N) X κ.1 κ.2) := by
  obtain ⟨h1, h2, h3, h4, h5⟩ := nd_k_in (by omega) hk
  have t1 := lm_term_nz (q := κ.1) (by omega)
  have p1 := lr_term_pl (i := κ.1) (by omega)
  by_cases w : κ.1 = κ.2
  · have eb : nd_b κ = nI 0 := if_pos w
    have ev : nd_v X κ = lm_hf (X κ.1 κ.1) := by
      unfold nd_v lm_bd nd_a
      rw [eb, if_neg (fun e => t1 (by rw [e]; decide)), if_neg t1, if_pos (by decide), p1]
    rw [ev, ← w]
    have e := he κ.1 h1
    have b := hb κ.1 κ.1
    unfold lz_hv
    rw [if_pos rfl]
    rw [lz_X_in h1 h1] at e b ⊢
    exact lz_half b hM e
  · have eb : nd_b κ = lr_term κ.2 := if_neg w
    have t2 := lm_term_nz (q := κ.2) (by omega)
    have p2 := lr_term_pl (i := κ.2) (by omega)
    have hno : ¬ lr_term κ.1 = -lr_term κ.2 := fun e => h4 (by
      rw [← lr_term_op (by omega)] at e
      have := congrArg lr_pl e
      rw [p1, lr_term_pl (lr_op_lt (n := 5) (by omega))] at this
      rw [this, lr_op_op])
    have ev : nd_v X κ = X κ.1 κ.2 := by
      unfold nd_v lm_bd nd_a
      rw [eb, if_neg hno, if_neg t1, if_neg t2, p1, p2]
    rw [ev]
    unfold lz_hv
    rw [if_neg w, lz_X_in h1 h2]
theorem nd_inj {l : List (Nat × Nat)} (h : l.Nodup) {q r : Nat} {κ : Nat × Nat} (h1 : l[q]? = some κ) (h2 : l[r]? = some κ) : q = r :=
  (List.getElem?_inj (List.getElem?_eq_some_iff.mp h1).1 h).mp (h1.trans h2.symm)
theorem nd_Ar_off {N r : Nat} {W A : lr_M} {fk : List (Nat × Nat)} {fl : Nat → Int32} {κ : Nat × Nat} (hd : fk.Nodup) (hr : fk[r]? = some κ) (h4 : κ.2 ≠ lr_op κ.1) (h1 : κ.1 < 2 * N) (h2 : κ.2 < 2 * N) (hle : κ.1 ≤ κ.2) (h : nd_Ar N W fk fl A) : nd_Ar N W fk (upd fl r (nI 0)) (lq_up A κ.1 κ.2 none) := by
  obtain ⟨a1, a2, a3⟩ := h
  refine ⟨fun i j q => ?_, fun i hi => ?_, fun i j hi hj hij w => ?_⟩
  · rw [lq_up_ne (by rintro (⟨rfl, rfl⟩ | ⟨rfl, rfl⟩) <;> exact q ⟨by omega, by omega⟩)]; exact a1 i j q
  · rw [lq_up_ne]
    · exact a2 i hi
    · rintro (⟨rfl, z⟩ | ⟨z1, z2⟩)
      · exact h4 z.symm
      · exact h4 (by rw [← z2, ← z1, lr_op_op])
  · obtain ⟨b1, b2, b3⟩ := a3 i j hi hj hij w
    by_cases e : i = κ.1 ∧ j = κ.2
    · obtain ⟨rfl, rfl⟩ := e
      refine ⟨by rw [lq_up_in, lq_up_sy], fun ⟨q, e1, e2⟩ => ?_, fun _ => lq_up_in⟩
      have : q = r := nd_inj hd e1 hr
      subst this
      rw [lm_upd_k] at e2
      exact absurd (by decide) e2
    · have ne1 : ¬ ((i = κ.1 ∧ j = κ.2) ∨ (i = κ.2 ∧ j = κ.1)) := by omega
      have ne2 : ¬ ((j = κ.1 ∧ i = κ.2) ∨ (j = κ.2 ∧ i = κ.1)) := by omega
      have hq : ∀ q, fk[q]? = some (i, j) → q ≠ r := fun q e1 e2 => by
        rw [e2, hr] at e1
        injection e1 with e1
        exact e ⟨by rw [e1], by rw [e1]⟩
      rw [lq_up_ne ne1, lq_up_ne ne2]
      refine ⟨b1, fun ⟨q, e1, e2⟩ => b2 ⟨q, e1, ?_⟩, fun hh => b3 (fun q e1 => ?_)⟩
      · rw [lm_upd_n (hq q e1)] at e2; exact e2
      · have := hh q e1
        rw [lm_upd_n (hq q e1)] at this; exact this
theorem nd_Ar_on {N : Nat} {W A : lr_M} {fk : List (Nat × Nat)} {fl fl' : Nat → Int32} (hf : ∀ q κ, fk[q]? = some κ → (fl q = 0 ↔ fl' q = 0)) (h : nd_Ar N W fk fl A) : nd_Ar N W fk fl' A := by
  obtain ⟨a1, a2, a3⟩ := h
  refine ⟨a1, a2, fun i j hi hj hij w => ?_⟩
  obtain ⟨b1, b2, b3⟩ := a3 i j hi hj hij w
  exact ⟨b1, fun ⟨q, e1, e2⟩ => b2 ⟨q, e1, fun z => e2 ((hf q _ e1).mp z)⟩, fun hh => b3 (fun q e1 => (hf q _ e1).mpr (hh q e1))⟩
def nd_At (N : Nat) (W : lr_M) (fk : List (Nat × Nat)) (t : Nat) : lr_M := (fk.drop (fk.length - t)).foldr (nd_s N) W
def nd_Y (N : Nat) (B : Nat → Int64) (r : Nat) : Nat → Nat → Int64 := fun i j => lz_i (nd_R N (((nd_f N (iv_mat N B)).drop (r + 1)).foldr (nd_s N) (lz_T (2 * N) B)) ((nd_f N (iv_mat N B))[r]?.getD (0, 0)).1 ((nd_f N (iv_mat N B))[r]?.getD (0, 0)).2 i j)
theorem nd_fm {N : Nat} {X : Nat → Nat → Int64} {q : Nat} {κ : Nat × Nat} (h : (nd_f N X)[q]? = some κ) : κ ∈ nd_k (2 * N) ∧ ¬ nd_v X κ = lr_E := by
  have hm : κ ∈ nd_f N X := List.mem_of_getElem? h
  refine ⟨(List.mem_filter.mp hm).1, ?_⟩
  have := (List.mem_filter.mp hm).2
  unfold nd_p at this
  simpa using this
/-- the reference's run -/
theorem nd_go {N : Nat} {B : Nat → Int64} {S : lm_N} (hN : N ≤ 5) (hC : lr_Cl N (lz_T (2 * N) B)) (hn : lz_nf (2 * N) (lz_T (2 * N) B)) (hm : S.1 = (nd_f N (iv_mat N B)).length) (hS : ∀ r κ, (nd_f N (iv_mat N B))[r]? = some κ → S.2.1 r = nd_a κ ∧ S.2.2.1 r = nd_b κ ∧ S.2.2.2.1 r = nd_v (iv_mat N B) κ ∧ S.2.2.2.2 r = nI 1) : ∀ t, t ≤ S.1 → nd_Ar N (lz_T (2 * N) B) (nd_f N (iv_mat N B)) (lm_el S (nd_Y N B) t) (nd_At N (lz_T (2 * N) B) (nd_f N (iv_mat N B)) t) ∧ nd_I N (lz_T (2 * N) B) (nd_At N (lz_T (2 * N) B) (nd_f N (iv_mat N B)) t) ∧ (∀ r, r < S.1 - t → lm_el S (nd_Y N B) t r = nI 1) ∧ (t < S.1 → lm_Cl N (lm_bld S (upd (lm_el S (nd_Y N B) t) (S.1 - (t + 1)) (nI 0)) S.1) (some (nd_Y N B (S.1 - (t + 1))))) := by
  have hb := lz_nf_B hn lz_T_gd
  have hd : (nd_f N (iv_mat N B)).Nodup := (nd_k_nodup hN).filter _
  have hS' : ∀ r κ, (nd_f N (iv_mat N B))[r]? = some κ → S.2.1 r = nd_a κ ∧ S.2.2.1 r = nd_b κ ∧ S.2.2.2.1 r = nd_v (iv_mat N B) κ := fun r κ h => ⟨(hS r κ h).1, (hS r κ h).2.1, (hS r κ h).2.2.1⟩
  -- the closing that is asked for
  have ask : ∀ t, t < S.1 → nd_Ar N (lz_T (2 * N) B) (nd_f N (iv_mat N B)) (lm_el S (nd_Y N B) t) (nd_At N (lz_T (2 * N) B) (nd_f N (iv_mat N B)) t) → nd_I N (lz_T (2 * N) B) (nd_At N (lz_T (2 * N) B) (nd_f N (iv_mat N B)) t) → ∃ κ, (nd_f N (iv_mat N B))[S.1 - (t + 1)]? = some κ ∧ lz_X (2 * N) (nd_Y N B (S.1 - (t + 1))) = (fun i j => if i < 2 * N ∧ j < 2 * N then nd_R N (nd_At N (lz_T (2 * N) B) (nd_f N (iv_mat N B)) t) κ.1 κ.2 i j else none) ∧ lm_Cl N (lm_bld S (upd (lm_el S (nd_Y N B) t) (S.1 - (t + 1)) (nI 0)) S.1) (some (nd_Y N B (S.1 - (t + 1)))) := by
    intro t ht hA hI
    have ⟨κ, hκ⟩ : ∃ κ, (nd_f N (iv_mat N B))[S.1 - (t + 1)]? = some κ := ⟨_, List.getElem?_eq_getElem (by omega)⟩
    obtain ⟨hk, hp⟩ := nd_fm hκ
    obtain ⟨h1, h2, h3, h4, h5⟩ := nd_k_in (by omega) hk
    have eA : ((nd_f N (iv_mat N B)).drop (S.1 - (t + 1) + 1)).foldr (nd_s N) (lz_T (2 * N) B) = nd_At N (lz_T (2 * N) B) (nd_f N (iv_mat N B)) t := by
      unfold nd_At
      rw [show S.1 - (t + 1) + 1 = (nd_f N (iv_mat N B)).length - t by omega]
    have hRb := nd_Rb (j := κ.2) hN hb hI h1 h4
    have eY : lz_X (2 * N) (nd_Y N B (S.1 - (t + 1))) = (fun i j => if i < 2 * N ∧ j < 2 * N then nd_R N (nd_At N (lz_T (2 * N) B) (nd_f N (iv_mat N B)) t) κ.1 κ.2 i j else none) := by
      funext i j
      unfold lz_X nd_Y
      by_cases q : i < 2 * N ∧ j < 2 * N
      · rw [if_pos q, if_pos q, hκ, eA]
        exact lz_vi (hRb i j) (by omega)
      · rw [if_neg q, if_neg q]
    refine ⟨κ, hκ, eY, ?_⟩
    have b1 := nd_bldA (L := upd (lm_el S (nd_Y N B) t) (S.1 - (t + 1)) (nI 0)) hN hC hn hS'
    have b2 := nd_Ar_off hd hκ h4 h1 h2 h3 hA
    have eX := nd_Ar_eq b1 b2
    rw [← hm] at eX
    have hI' := nd_up hI h1 h4
    have his := nd_is hC hI h1 h4
    obtain ⟨_, o1, _, _⟩ := nd_bld (L := upd (lm_el S (nd_Y N B) t) (S.1 - (t + 1)) (nI 0)) hN hC hn hS' S.1 (by omega)
    refine lz_RT1 (M := 2100000000000000000) hN (by rw [eX]; exact hI'.1) (by rw [eX]; exact fun i j => lz_b_w (hI'.b hb i j) (by omega)) (fun i hi => iv_op0 rfl hi (lr_op_lt hi) (Or.inl (o1 i))) (by
      rw [eX]
      refine lr_Is_congr (fun i hi j hj => ?_) his
      rw [eY]; simp only; rw [if_pos ⟨hi, hj⟩]) (fun i j => ?_) (by omega) (by omega)
    rw [eY]
    simp only
    split
    · exact hRb i j
    · exact lz_b_n
  intro t
  induction t with
  | zero =>
    intro _
    have eA : nd_At N (lz_T (2 * N) B) (nd_f N (iv_mat N B)) 0 = lz_T (2 * N) B := by
      unfold nd_At
      rw [Nat.sub_zero, List.drop_length]; rfl
    have I0 : nd_I N (lz_T (2 * N) B) (lz_T (2 * N) B) := ⟨hC.1, hC.2.1, fun _ _ => Or.inl rfl⟩
    have f1 : ∀ r, r < S.1 → lm_el S (nd_Y N B) 0 r = nI 1 := fun r hr => by
      have ⟨κ, hκ⟩ : ∃ κ, (nd_f N (iv_mat N B))[r]? = some κ := ⟨_, List.getElem?_eq_getElem (by omega)⟩
      exact (hS r κ hκ).2.2.2
    have hA : nd_Ar N (lz_T (2 * N) B) (nd_f N (iv_mat N B)) (lm_el S (nd_Y N B) 0) (nd_At N (lz_T (2 * N) B) (nd_f N (iv_mat N B)) 0) := by
      rw [eA]
      refine ⟨lz_T_gd, hC.2.1, fun i j hi hj hij w => ⟨hC.1 i hi j hj, fun _ => rfl, fun hh => ?_⟩⟩
      refine Classical.byContradiction fun q => ?_
      have mem := nd_k_mem hi hj hij w (by omega)
      have mf : (i, j) ∈ nd_f N (iv_mat N B) := List.mem_filter.mpr ⟨mem, by
        unfold nd_p
        simp only [decide_eq_true_eq]
        exact fun e => q ((nd_vE hN mem).mp e)⟩
      obtain ⟨r, hr⟩ := List.mem_iff_getElem?.mp mf
      have := hh r hr
      rw [f1 r (by have := (List.getElem?_eq_some_iff.mp hr).1; omega)] at this
      exact absurd this (by decide)
    have hI : nd_I N (lz_T (2 * N) B) (nd_At N (lz_T (2 * N) B) (nd_f N (iv_mat N B)) 0) := by rw [eA]; exact I0
    refine ⟨hA, hI, fun r hr => f1 r (by omega), fun ht => ?_⟩
    obtain ⟨_, _, _, h⟩ := ask 0 ht hA hI
    exact h
  | succ t ih =>
    intro ht
    obtain ⟨i1, i2, i3, _⟩ := ih (by omega)
    obtain ⟨κ, hκ, eY, _⟩ := ask t (by omega) i1 i2
    obtain ⟨hk, hp⟩ := nd_fm hκ
    obtain ⟨h1, h2, h3, h4, h5⟩ := nd_k_in (by omega) hk
    obtain ⟨s1, s2, s3, s4⟩ := hS _ κ hκ
    have his := nd_is hC i2 h1 h4
    have hRb := nd_Rb (j := κ.2) hN hb i2 h1 h4
    have eA : nd_At N (lz_T (2 * N) B) (nd_f N (iv_mat N B)) (t + 1) = nd_s N κ (nd_At N (lz_T (2 * N) B) (nd_f N (iv_mat N B)) t) := by
      unfold nd_At
      have hlt : S.1 - (t + 1) < (nd_f N (iv_mat N B)).length := by omega
      rw [← hm, List.drop_eq_getElem_cons hlt, List.foldr_cons, show S.1 - (t + 1) + 1 = S.1 - t by omega]
      congr 1
      have := List.getElem?_eq_getElem hlt
      rw [hκ] at this
      injection this with this
      exact this.symm
    have fr : lm_el S (nd_Y N B) t (S.1 - (t + 1)) = nI 1 := i3 _ (by omega)
    have hAk : nd_At N (lz_T (2 * N) B) (nd_f N (iv_mat N B)) t κ.1 κ.2 = lz_T (2 * N) B κ.1 κ.2 := (i1.2.2 κ.1 κ.2 h1 h2 h3 h4).2.1 ⟨_, hκ, by rw [fr]; decide⟩
    have hWn : ¬ lz_T (2 * N) B κ.1 κ.2 = none := fun e => hp ((nd_vE hN hk).mpr e)
    have ex : lm_el S (nd_Y N B) (t + 1) = upd (upd (lm_el S (nd_Y N B) t) (S.1 - (t + 1)) (nI 0)) (S.1 - (t + 1)) (lm_gt (nd_v (nd_Y N B (S.1 - (t + 1))) κ) (nd_v (iv_mat N B) κ)) := by
      show upd (upd (lm_el S (nd_Y N B) t) (S.1 - (t + 1)) (nI 0)) (S.1 - (t + 1)) (lm_gt (lm_bd (nd_Y N B (S.1 - (t + 1))) (S.2.1 (S.1 - (t + 1))) (S.2.2.1 (S.1 - (t + 1)))) (S.2.2.2.1 (S.1 - (t + 1)))) = _
      rw [s1, s2, s3]; rfl
    have e2Y : lz_e2 (2 * N) (lz_X (2 * N) (nd_Y N B (S.1 - (t + 1)))) := fun i hi x hx => by
      rw [eY] at hx; simp only at hx; rw [if_pos ⟨hi, hi⟩] at hx
      exact his.1.e2 i hi x hx
    have bY : lz_B 2100000000000000000 (lz_X (2 * N) (nd_Y N B (S.1 - (t + 1)))) := fun i j => by
      rw [eY]; simp only; split
      · exact hRb i j
      · exact lz_b_n
    have v1 := nd_vv hN hk e2Y bY (by omega)
    have v2 := nd_vv (X := iv_mat N B) hN hk (he := hC.e2) (hb := hb) (by omega)
    have v1' : lz_X (2 * N) (nd_Y N B (S.1 - (t + 1))) κ.1 κ.2 = nd_R N (nd_At N (lz_T (2 * N) B) (nd_f N (iv_mat N B)) t) κ.1 κ.2 κ.1 κ.2 := by rw [eY]; simp only; rw [if_pos ⟨h1, h2⟩]
    have hvb : ∀ {M : Int} {z : Option Int}, lz_b M z → 0 ≤ M → lz_b M (lz_hv κ.1 κ.2 z) := fun h h0 => by
      unfold lz_hv; split
      · exact lz_b_hf h h0
      · exact h
    have hle := lz_le (c := nd_v (nd_Y N B (S.1 - (t + 1))) κ) (d := nd_v (iv_mat N B) κ) (by rw [v1]; exact hvb (bY _ _) (by omega)) (by rw [v2]; exact hvb (hb _ _) (by omega)) (by omega) (by omega)
    have hle2 : nd_v (nd_Y N B (S.1 - (t + 1))) κ ≤ nd_v (iv_mat N B) κ ↔ lr_le (nd_R N (nd_At N (lz_T (2 * N) B) (nd_f N (iv_mat N B)) t) κ.1 κ.2 κ.1 κ.2) (lz_T (2 * N) B κ.1 κ.2) := by
      rw [hle, v1, v2, v1']
      show lr_le _ (lz_hv κ.1 κ.2 (lz_T (2 * N) B κ.1 κ.2)) ↔ _
      have ew : κ.1 = κ.2 → ∀ x, lz_T (2 * N) B κ.1 κ.2 = some x → x % 2 = 0 := fun e x hx => by rw [← e] at hx; exact hC.e2 κ.1 h1 x hx
      have er : κ.1 = κ.2 → ∀ x, nd_R N (nd_At N (lz_T (2 * N) B) (nd_f N (iv_mat N B)) t) κ.1 κ.2 κ.1 κ.2 = some x → x % 2 = 0 := fun e x hx => by
        have := his.1.e2 κ.1 h1 x
        rw [← e] at hx this
        exact this hx
      cases hw : lz_T (2 * N) B κ.1 κ.2 with
      | none => exact absurd hw hWn
      | some x => exact iv_hv_le (fun e => ew e x hw) er
    have hI2 : nd_I N (lz_T (2 * N) B) (nd_At N (lz_T (2 * N) B) (nd_f N (iv_mat N B)) (t + 1)) := by rw [eA]; exact i2.s h1 h4
    have hA2 : nd_Ar N (lz_T (2 * N) B) (nd_f N (iv_mat N B)) (lm_el S (nd_Y N B) (t + 1)) (nd_At N (lz_T (2 * N) B) (nd_f N (iv_mat N B)) (t + 1)) := by
      rw [eA, ex]
      unfold nd_s
      rw [hAk, if_neg hWn]
      by_cases q : nd_v (nd_Y N B (S.1 - (t + 1))) κ ≤ nd_v (iv_mat N B) κ
      · have q' := hle2.mp q
        rw [if_pos (lr_mn_of q')]
        refine nd_Ar_on (fun z κ' hz => ?_) (nd_Ar_off hd hκ h4 h1 h2 h3 i1)
        by_cases e : z = S.1 - (t + 1)
        · rw [e, lm_upd_k, lm_upd_k]
          unfold lm_gt
          rw [if_pos q]
        · rw [lm_upd_n e, lm_upd_n e, lm_upd_n e]
      · rw [if_neg (fun e => q (hle2.mpr (by rw [← e]; exact lr_mn_r _ _)))]
        refine nd_Ar_on (fun z κ' hz => ?_) i1
        by_cases e : z = S.1 - (t + 1)
        · rw [e, lm_upd_k, fr]
          unfold lm_gt
          rw [if_neg q]
        · rw [lm_upd_n e, lm_upd_n e]
    refine ⟨hA2, hI2, fun r hr => ?_, fun ht' => ?_⟩
    · rw [ex, lm_upd_n (by omega), lm_upd_n (by omega)]; exact i3 r (by omega)
    · obtain ⟨_, _, _, h⟩ := ask (t + 1) ht' hA2 hI2
      exact h
/-- rows that are not told change nothing -/
theorem nd_skip {N : Nat} {B : Nat → Int64} (hN : N ≤ 5) (hC : lr_Cl N (lz_T (2 * N) B)) : ∀ (l : List (Nat × Nat)), (∀ κ, κ ∈ l → κ ∈ nd_k (2 * N)) → l.foldr (nd_s N) (lz_T (2 * N) B) = (l.filter (nd_p (iv_mat N B))).foldr (nd_s N) (lz_T (2 * N) B) ∧ nd_I N (lz_T (2 * N) B) (l.foldr (nd_s N) (lz_T (2 * N) B))
  | [], _ => ⟨rfl, ⟨hC.1, hC.2.1, fun _ _ => Or.inl rfl⟩⟩
  | κ :: l, h => by
    obtain ⟨i1, i2⟩ := nd_skip hN hC l (fun κ' hk => h κ' (List.mem_cons_of_mem _ hk))
    have hk := h κ List.mem_cons_self
    obtain ⟨h1, h2, h3, h4, h5⟩ := nd_k_in (by omega) hk
    refine ⟨?_, by rw [List.foldr_cons]; exact i2.s h1 h4⟩
    rw [List.foldr_cons]
    by_cases w : nd_v (iv_mat N B) κ = lr_E
    · have ef : (κ :: l).filter (nd_p (iv_mat N B)) = l.filter (nd_p (iv_mat N B)) := List.filter_cons_of_neg (by unfold nd_p; simp [w])
      rw [ef, ← i1]
      have hz : l.foldr (nd_s N) (lz_T (2 * N) B) κ.1 κ.2 = none := by
        have := (nd_vE hN hk).mp w
        rcases i2.2.2 κ.1 κ.2 with e | e
        · rw [e]; exact this
        · exact e
      generalize l.foldr (nd_s N) (lz_T (2 * N) B) = A at hz
      unfold nd_s
      rw [if_pos hz]
    · have ef : (κ :: l).filter (nd_p (iv_mat N B)) = κ :: l.filter (nd_p (iv_mat N B)) := List.filter_cons_of_pos (by unfold nd_p; simp [w])
      rw [ef, List.foldr_cons, ← i1]
/-- the class tells -/
def nd_g (L : Nat → Int64) (n : Nat) (κ : Nat × Nat) : Bool := decide (¬ L (κ.1 * n + κ.2) = lr_E)
def nd_c (L : Nat → Int64) (n : Nat) (κ : Nat × Nat) : Int64 := if κ.1 = κ.2 then lr_half L n κ.1 else L (κ.1 * n + κ.2)
def nd_tl (L : Nat → Int64) (n : Nat) (p : lr_P) (κ : Nat × Nat) : lr_P := if L (κ.1 * n + κ.2) = lr_E then p else (p.1 + 1, lr_tell p.2 p.1 (nd_a κ) (nd_b κ) (nd_c L n κ))
theorem nd_told {L : Nat → Int64} {N : Nat} {p : lr_P} : lr_t3 L (2 * N) (2 * N) (lr_t1 L (2 * N) (2 * N) p) = (nd_k (2 * N)).foldl (nd_tl L (2 * N)) p := by
  unfold nd_k
  rw [List.foldl_append]
  have e1 : ∀ p, lr_t1 L (2 * N) (2 * N) p = (nd_k1 (2 * N)).foldl (nd_tl L (2 * N)) p := fun p => by
    unfold lr_t1 nd_k1
    rw [List.foldl_map, lr_it_fold]
    have : ∀ i, nd_b (i, i) = nI 0 := fun i => if_pos rfl
    have h2 : ∀ i, nd_c L (2 * N) (i, i) = lr_half L (2 * N) i := fun i => if_pos rfl
    simp only [nd_tl, this, h2]
    rfl
  have e2 : ∀ p, lr_t3 L (2 * N) (2 * N) p = (nd_k2 (2 * N)).foldl (nd_tl L (2 * N)) p := fun p => by
    unfold lr_t3 nd_k2
    rw [nd_foldl_flat, ← lr_it_fold (f := fun i c => List.foldl (nd_tl L (2 * N)) c (List.map (fun t => (i, lr_nx i + t)) (List.range (2 * N - lr_nx i))))]
    refine lr_it_eq (fun i hi p => ?_) p
    unfold lr_t2
    rw [List.foldl_map, lr_it_fold]
    have hne : ∀ t, ¬ i = lr_nx i + t := fun t => by unfold lr_nx; omega
    have : ∀ t, nd_b (i, lr_nx i + t) = lr_term (lr_nx i + t) := fun t => if_neg (hne t)
    have h2 : ∀ t, nd_c L (2 * N) (i, lr_nx i + t) = L (i * (2 * N) + (lr_nx i + t)) := fun t => if_neg (hne t)
    simp only [nd_tl, this, h2]
    rfl
  rw [e1, e2]
theorem nd_tls {L : Nat → Int64} {n : Nat} : ∀ (l : List (Nat × Nat)) (p : lr_P), (l.foldl (nd_tl L n) p).1 = p.1 + (l.filter (nd_g L n)).length ∧ (∀ r, r < 3 * p.1 → (l.foldl (nd_tl L n) p).2 r = p.2 r) ∧ (∀ r κ, (l.filter (nd_g L n))[r]? = some κ → (l.foldl (nd_tl L n) p).2 (3 * (p.1 + r)) = (nd_a κ).toInt64 ∧ (l.foldl (nd_tl L n) p).2 (3 * (p.1 + r) + 1) = (nd_b κ).toInt64 ∧ (l.foldl (nd_tl L n) p).2 (3 * (p.1 + r) + 2) = nd_c L n κ)
  | [], p => ⟨rfl, fun _ _ => rfl, fun r κ h => by simp at h⟩
  | κ :: l, p => by
    obtain ⟨i1, i2, i3⟩ := nd_tls l (nd_tl L n p κ)
    rw [List.foldl_cons]
    by_cases w : L (κ.1 * n + κ.2) = lr_E
    · have e : nd_tl L n p κ = p := by unfold nd_tl; rw [if_pos w]
      have ef : (κ :: l).filter (nd_g L n) = l.filter (nd_g L n) := List.filter_cons_of_neg (by unfold nd_g; simp [w])
      rw [e] at i1 i2 i3 ⊢
      rw [ef]
      exact ⟨i1, i2, i3⟩
    · have e : nd_tl L n p κ = (p.1 + 1, lr_tell p.2 p.1 (nd_a κ) (nd_b κ) (nd_c L n κ)) := by unfold nd_tl; rw [if_neg w]
      have ef : (κ :: l).filter (nd_g L n) = κ :: l.filter (nd_g L n) := List.filter_cons_of_pos (by unfold nd_g; simp [w])
      rw [e] at i1 i2 i3 ⊢
      rw [ef]
      refine ⟨?_, fun r hr => ?_, fun r κ' hr => ?_⟩
      · rw [i1, List.length_cons]; show p.1 + 1 + _ = _; omega
      · refine (i2 r (show r < 3 * (p.1 + 1) by omega)).trans ?_
        show lr_tell _ _ _ _ _ r = _
        unfold lr_tell
        rw [vl_ne (by omega), vl_ne (by omega), vl_ne (by omega)]
      · cases r with
        | zero =>
          rw [List.getElem?_cons_zero] at hr
          injection hr with hr
          subst hr
          have a := i2 (3 * p.1) (show 3 * p.1 < 3 * (p.1 + 1) by omega)
          have b := i2 (3 * p.1 + 1) (show 3 * p.1 + 1 < 3 * (p.1 + 1) by omega)
          have c := i2 (3 * p.1 + 2) (show 3 * p.1 + 2 < 3 * (p.1 + 1) by omega)
          refine ⟨a.trans ?_, b.trans ?_, c.trans ?_⟩
          · show lr_tell _ _ _ _ _ (3 * p.1) = _
            unfold lr_tell
            rw [vl_ne (by omega), vl_ne (by omega), vl_eq]
          · show lr_tell _ _ _ _ _ (3 * p.1 + 1) = _
            unfold lr_tell
            rw [vl_ne (by omega), vl_eq]
          · show lr_tell _ _ _ _ _ (3 * p.1 + 2) = _
            unfold lr_tell
            rw [vl_eq]
        | succ r =>
          rw [List.getElem?_cons_succ] at hr
          have := i3 r κ' hr
          rw [show p.1 + (r + 1) = p.1 + 1 + r by omega]
          exact this
/-- the reference tells -/
theorem nd_cm {fk : List (Nat × Nat)} {S : lm_N} {L : Nat → Int32} {X : Nat → Nat → Int64} {g : Nat × Nat → Bool} (hS : ∀ r κ, fk[r]? = some κ → S.2.1 r = nd_a κ ∧ S.2.2.1 r = nd_b κ ∧ S.2.2.2.1 r = nd_v X κ) (hg : ∀ r κ, fk[r]? = some κ → (L r = 0 ↔ g κ = false)) : ∀ n, n ≤ fk.length → (lm_cmF L n (0, S.2.1, S.2.2.1, S.2.2.2.1)).1 = ((fk.take n).filter g).length ∧ (lm_cmF L n (0, S.2.1, S.2.2.1, S.2.2.2.1)).1 ≤ n ∧ (∀ q κ, ((fk.take n).filter g)[q]? = some κ → (lm_cmF L n (0, S.2.1, S.2.2.1, S.2.2.2.1)).2.1 q = nd_a κ ∧ (lm_cmF L n (0, S.2.1, S.2.2.1, S.2.2.2.1)).2.2.1 q = nd_b κ ∧ (lm_cmF L n (0, S.2.1, S.2.2.1, S.2.2.2.1)).2.2.2 q = nd_v X κ) ∧ (∀ q, n ≤ q → (lm_cmF L n (0, S.2.1, S.2.2.1, S.2.2.2.1)).2.1 q = S.2.1 q ∧ (lm_cmF L n (0, S.2.1, S.2.2.1, S.2.2.2.1)).2.2.1 q = S.2.2.1 q ∧ (lm_cmF L n (0, S.2.1, S.2.2.1, S.2.2.2.1)).2.2.2 q = S.2.2.2.1 q)
  | 0, _ => ⟨rfl, Nat.le_refl _, fun q κ h => by simp at h, fun q _ => ⟨rfl, rfl, rfl⟩⟩
  | n + 1, hn => by
    obtain ⟨i1, i2, i3, i4⟩ := nd_cm hS hg n (by omega)
    have ⟨κ, hκ⟩ : ∃ κ, fk[n]? = some κ := ⟨_, List.getElem?_eq_getElem (by omega)⟩
    obtain ⟨s1, s2, s3⟩ := hS n κ hκ
    have et : fk.take (n + 1) = fk.take n ++ [κ] := by rw [List.take_succ, hκ]; rfl
    have es : lm_cmF L (n + 1) (0, S.2.1, S.2.2.1, S.2.2.2.1) = lm_cm L n (lm_cmF L n (0, S.2.1, S.2.2.1, S.2.2.2.1)) := rfl
    obtain ⟨j1, j2, j3⟩ := i4 n (Nat.le_refl _)
    rw [et, List.filter_append, es]
    by_cases w : L n = 0
    · have e : lm_cm L n (lm_cmF L n (0, S.2.1, S.2.2.1, S.2.2.2.1)) = lm_cmF L n (0, S.2.1, S.2.2.1, S.2.2.2.1) := by unfold lm_cm; rw [if_pos w]
      have eg : [κ].filter g = [] := by
        have := (hg n κ hκ).mp w
        simp [this]
      rw [e, eg, List.append_nil]
      exact ⟨i1, by omega, i3, fun q hq => i4 q (by omega)⟩
    · have gt : g κ = true := by
        cases hgk : g κ with
        | true => rfl
        | false => exact absurd ((hg n κ hκ).mpr hgk) w
      have eg : [κ].filter g = [κ] := by simp [gt]
      rw [eg]
      unfold lm_cm
      rw [if_neg w]
      refine ⟨?_, ?_, fun q κ' hq => ?_, fun q hq => ?_⟩
      · rw [List.length_append, ← i1]; rfl
      · show _ + 1 ≤ n + 1; omega
      · rcases Nat.lt_or_ge q ((fk.take n).filter g).length with z | z
        · rw [List.getElem?_append_left z] at hq
          obtain ⟨a, b, c⟩ := i3 q κ' hq
          have ne : q ≠ (lm_cmF L n (0, S.2.1, S.2.2.1, S.2.2.2.1)).1 := by omega
          exact ⟨(lm_upd_n ne).trans a, (lm_upd_n ne).trans b, (vl_ne ne).trans c⟩
        · rw [List.getElem?_append_right z] at hq
          have z2 : q - ((fk.take n).filter g).length = 0 := by
            cases h : q - ((fk.take n).filter g).length with
            | zero => rfl
            | succ k => rw [h] at hq; simp at hq
          rw [z2, List.getElem?_cons_zero] at hq
          injection hq with hq
          subst hq
          have eq : q = (lm_cmF L n (0, S.2.1, S.2.2.1, S.2.2.2.1)).1 := by omega
          rw [eq]
          exact ⟨(lm_upd_k _ _ _).trans (j1.trans s1), (lm_upd_k _ _ _).trans (j2.trans s2), (vl_eq _ _ _).trans (j3.trans s3)⟩
      · obtain ⟨a, b, c⟩ := i4 q (by omega)
        have ne : q ≠ (lm_cmF L n (0, S.2.1, S.2.2.1, S.2.2.2.1)).1 := by omega
        exact ⟨(lm_upd_n ne).trans a, (lm_upd_n ne).trans b, (vl_ne ne).trans c⟩
def iv_N (m : Nat) (ne : Nat → Int64) (nA nB : Nat → Int32) (nC : Nat → Int64) : Prop := ∀ q, q < m → ne (3 * q) = (nA q).toInt64 ∧ ne (3 * q + 1) = (nB q).toInt64 ∧ ne (3 * q + 2) = nC q
theorem iv_needed {N k : Nat} {K B : Nat → Nat → Int64} {E Em : Nat → Int32} {R : Nat → Int64} {L L1 L2 ne ne2 : Nat → Int64} {m2 : Nat} {nA nB : Nat → Int32} {nC : Nat → Int64} (hN : N ≤ 5) (h : iv_A N K B E R Em) (hk : k < 8) (he : E k = 0) (h1 : lr_lvP (2 * N) (2 * N) (lr_copy (B k) L (2 * N * (2 * N))) L1) (h2 : lr_lvS (2 * N) (2 * N) L1 L2) (h3 : (m2, ne2) = lr_t3 L2 (2 * N) (2 * N) (lr_t1 L2 (2 * N) (2 * N) (0, ne))) : (∀ q, q < 8 → nI k = nI q → Em q = 0 → ∀ Lf t, t < (lm_lst (iv_mat N (B q)) N nA nB nC Lf).1 → lm_Cl N (lm_bld (lm_lst (iv_mat N (B q)) N nA nB nC Lf) (upd (lm_el (lm_lst (iv_mat N (B q)) N nA nB nC Lf) (nd_Y N (B k)) t) ((lm_lst (iv_mat N (B q)) N nA nB nC Lf).1 - (t + 1)) (nI 0)) (lm_lst (iv_mat N (B q)) N nA nB nC Lf).1) (some (nd_Y N (B k) ((lm_lst (iv_mat N (B q)) N nA nB nC Lf).1 - (t + 1))))) ∧
    (∀ Lf n' a' b' c', (n', a', b', c') = lm_ndF (lm_lst (iv_mat N (B k)) N nA nB nC Lf) (nd_Y N (B k)) → n' = m2 ∧ iv_N m2 ne2 a' b' c') := by
  obtain ⟨hs, _, _⟩ := h k hk
  obtain ⟨i2, n2⟩ := hs.st he
  have hlst : ∀ Lf, (lm_lst (iv_mat N (B k)) N nA nB nC Lf).1 = (nd_f N (iv_mat N (B k))).length ∧ ∀ r κ, (nd_f N (iv_mat N (B k)))[r]? = some κ → (lm_lst (iv_mat N (B k)) N nA nB nC Lf).2.1 r = nd_a κ ∧ (lm_lst (iv_mat N (B k)) N nA nB nC Lf).2.2.1 r = nd_b κ ∧ (lm_lst (iv_mat N (B k)) N nA nB nC Lf).2.2.2.1 r = nd_v (iv_mat N (B k)) κ ∧ (lm_lst (iv_mat N (B k)) N nA nB nC Lf).2.2.2.2 r = nI 1 := fun Lf => by
    rw [nd_lst]
    obtain ⟨a, _, c⟩ := nd_ls (X := iv_mat N (B k)) (nd_k (2 * N)) (0, nA, nB, nC, Lf)
    refine ⟨a.trans (Nat.zero_add _), fun r κ hr => ?_⟩
    have := c r κ hr
    rw [show (0, nA, nB, nC, Lf).1 + r = r from Nat.zero_add r] at this
    exact this
  refine ⟨fun q hq e _ Lf t ht => ?_, fun Lf n' a' b' c' hf => ?_⟩
  · rw [← iv_8 hk hq e] at ht ⊢
    obtain ⟨l1, l2⟩ := hlst Lf
    exact (nd_go hN i2.1 n2 l1 l2 t (by omega)).2.2.2 ht
  · obtain ⟨l1, l2⟩ := hlst Lf
    obtain ⟨g1, _, _, _⟩ := nd_go hN i2.1 n2 l1 l2 _ (Nat.le_refl _)
    have hcl := nd_class hN i2.1 n2 h1 h2
    have hsk := (nd_skip hN i2.1 (nd_k (2 * N)) (fun _ h => h)).1
    have hI := (nd_skip hN i2.1 (nd_k (2 * N)) (fun _ h => h)).2
    rw [← hcl] at hI
    have eAm : nd_At N (lz_T (2 * N) (B k)) (nd_f N (iv_mat N (B k))) (lm_lst (iv_mat N (B k)) N nA nB nC Lf).1 = lz_T (2 * N) L2 := by
      unfold nd_At
      rw [l1, Nat.sub_self, List.drop_zero, hcl, hsk]; rfl
    rw [eAm] at g1
    have hd : (nd_f N (iv_mat N (B k))).Nodup := (nd_k_nodup hN).filter _
    have hgk : ∀ κ, κ ∈ nd_k (2 * N) → (nd_g L2 (2 * N) κ = true ↔ ¬ lz_T (2 * N) L2 κ.1 κ.2 = none) := fun κ hk => by
      obtain ⟨z1, z2, _⟩ := nd_k_in (by omega) hk
      unfold nd_g
      rw [lz_T_in z1 z2, decide_eq_true_eq, lz_v_n]
    have hflag : ∀ r κ, (nd_f N (iv_mat N (B k)))[r]? = some κ → (lm_el (lm_lst (iv_mat N (B k)) N nA nB nC Lf) (nd_Y N (B k)) (lm_lst (iv_mat N (B k)) N nA nB nC Lf).1 r = 0 ↔ nd_g L2 (2 * N) κ = false) := fun r κ hr => by
      obtain ⟨mk, np⟩ := nd_fm hr
      obtain ⟨z1, z2, z3, z4, z5⟩ := nd_k_in (by omega) mk
      obtain ⟨_, b1, b2⟩ := g1.2.2 κ.1 κ.2 z1 z2 z3 z4
      have hwn : ¬ lz_T (2 * N) (B k) κ.1 κ.2 = none := fun e => np ((nd_vE hN mk).mpr e)
      constructor
      · intro e
        have := b2 (fun q hq => by rw [nd_inj hd hq hr]; exact e)
        cases hg : nd_g L2 (2 * N) κ with
        | false => rfl
        | true => exact absurd this ((hgk κ mk).mp hg)
      · intro e
        refine Classical.byContradiction fun w => ?_
        have := b1 ⟨r, hr, w⟩
        have h3 := (hgk κ mk).mpr (by rw [this]; exact hwn)
        rw [e] at h3; exact absurd h3 (by simp)
    have l2' : ∀ r κ, (nd_f N (iv_mat N (B k)))[r]? = some κ → (lm_lst (iv_mat N (B k)) N nA nB nC Lf).2.1 r = nd_a κ ∧ (lm_lst (iv_mat N (B k)) N nA nB nC Lf).2.2.1 r = nd_b κ ∧ (lm_lst (iv_mat N (B k)) N nA nB nC Lf).2.2.2.1 r = nd_v (iv_mat N (B k)) κ := fun r κ h => ⟨(l2 r κ h).1, (l2 r κ h).2.1, (l2 r κ h).2.2.1⟩
    obtain ⟨c1, _, c3, _⟩ := nd_cm (L := lm_el (lm_lst (iv_mat N (B k)) N nA nB nC Lf) (nd_Y N (B k)) (lm_lst (iv_mat N (B k)) N nA nB nC Lf).1) (g := nd_g L2 (2 * N)) l2' hflag _ (Nat.le_refl _)
    rw [List.take_length] at c1 c3
    rw [← l1] at c1 c3
    have elist : (nd_f N (iv_mat N (B k))).filter (nd_g L2 (2 * N)) = (nd_k (2 * N)).filter (nd_g L2 (2 * N)) := by
      unfold nd_f
      rw [List.filter_filter]
      refine List.filter_congr (fun κ hκ => ?_)
      cases hg : nd_g L2 (2 * N) κ with
      | false => simp
      | true =>
        have hne := (hgk κ hκ).mp hg
        have : nd_p (iv_mat N (B k)) κ = true := by
          unfold nd_p
          rw [decide_eq_true_eq, nd_vE hN hκ]
          intro e
          rcases hI.2.2 κ.1 κ.2 with e2 | e2
          · exact hne (e2.trans e)
          · exact hne e2
        simp [this]
    rw [elist] at c1 c3
    rw [nd_told] at h3
    obtain ⟨t1, _, t3⟩ := nd_tls (L := L2) (n := 2 * N) (nd_k (2 * N)) (0, ne)
    rw [← h3] at t1 t3
    have hf' : (n', a', b', c') = lm_cmF (lm_el (lm_lst (iv_mat N (B k)) N nA nB nC Lf) (nd_Y N (B k)) (lm_lst (iv_mat N (B k)) N nA nB nC Lf).1) (lm_lst (iv_mat N (B k)) N nA nB nC Lf).1 (0, (lm_lst (iv_mat N (B k)) N nA nB nC Lf).2.1, (lm_lst (iv_mat N (B k)) N nA nB nC Lf).2.2.1, (lm_lst (iv_mat N (B k)) N nA nB nC Lf).2.2.2.1) := hf
    rw [← hf'] at c1 c3
    have t1 : m2 = 0 + ((nd_k (2 * N)).filter (nd_g L2 (2 * N))).length := t1
    have c1 : n' = ((nd_k (2 * N)).filter (nd_g L2 (2 * N))).length := c1
    refine ⟨by omega, fun q hq => ?_⟩
    have ⟨κ, hκ⟩ : ∃ κ, ((nd_k (2 * N)).filter (nd_g L2 (2 * N)))[q]? = some κ := ⟨_, List.getElem?_eq_getElem (by omega)⟩
    obtain ⟨a1, a2, a3⟩ := c3 q κ hκ
    obtain ⟨b1, b2, b3⟩ := t3 q κ hκ
    have b1 : ne2 (3 * (0 + q)) = (nd_a κ).toInt64 := b1
    have b2 : ne2 (3 * (0 + q) + 1) = (nd_b κ).toInt64 := b2
    have b3 : ne2 (3 * (0 + q) + 2) = nd_c L2 (2 * N) κ := b3
    rw [Nat.zero_add] at b1 b2 b3
    have a1 : a' q = nd_a κ := a1
    have a2 : b' q = nd_b κ := a2
    have a3 : c' q = nd_v (iv_mat N (B k)) κ := a3
    rw [b1, b2, b3, a1, a2, a3]
    refine ⟨rfl, rfl, ?_⟩
    have hm := List.mem_filter.mp (List.mem_of_getElem? hκ)
    obtain ⟨z1, z2, z3, z4, z5⟩ := nd_k_in (by omega) hm.1
    have hne := (hgk κ hm.1).mp hm.2
    have eL : L2 (κ.1 * (2 * N) + κ.2) = B k (κ.1 * (2 * N) + κ.2) := by
      apply lz_v_inj
      rw [← lz_T_in z1 z2, ← lz_T_in z1 z2]
      exact (hI.2.2 κ.1 κ.2).resolve_right hne
    have tt := lm_term_nz (q := κ.1) (by omega)
    have p1 := lr_term_pl (i := κ.1) (by omega)
    unfold nd_c
    by_cases w : κ.1 = κ.2
    · have eb : nd_b κ = nI 0 := if_pos w
      have ev : nd_v (iv_mat N (B k)) κ = lm_hf (B k (κ.1 * (2 * N) + κ.1)) := by
        unfold nd_v lm_bd nd_a
        rw [eb, if_neg (fun e => tt (by rw [e]; decide)), if_neg tt, if_pos (by decide), p1]; rfl
      rw [if_pos w, ev]
      unfold lr_half lm_hf
      rw [← w] at eL
      rw [eL]
    · have eb : nd_b κ = lr_term κ.2 := if_neg w
      have t2 := lm_term_nz (q := κ.2) (by omega)
      have p2 := lr_term_pl (i := κ.2) (by omega)
      have hno : ¬ lr_term κ.1 = -lr_term κ.2 := fun e => z4 (by
        rw [← lr_term_op (by omega)] at e
        have := congrArg lr_pl e
        rw [p1, lr_term_pl (lr_op_lt (n := 5) (by omega))] at this
        rw [this, lr_op_op])
      rw [if_neg w]
      unfold nd_v lm_bd nd_a
      rw [eb, if_neg hno, if_neg tt, if_neg t2, p1, p2, eL]; rfl
