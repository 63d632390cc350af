set_option maxHeartbeats 4000000 in
set_option maxRecDepth 100000 in
theorem c_M_closeShape {l : Launch} {D : va_G} {cJ cI cZ cS : ClassId} {ws : va_W} {sz : Nat} {b N nm : Nat} {A : Nat → Nat} {th : Int32} {R : Nat → Int64} {Em : Nat → Int32} {D0 : Nat → Int64} (m0 : ws[b]? = some (A 0, .inr (3, [.int th, .int (nI N), .ref (A 1), .ref (A 2), .ref (A 3), .ref (A 4), .ref (A 5), .ref (A 6), .int (nI nm), .ref (A 7), .ref (A 8), .ref (A 9), .ref (A 10)]))) (mR : ws[b + 1]? = some (A 1, .inl (cJ, 800, .inr (.inl R)))) (mE : ws[b + 2]? = some (A 2, .inl (cZ, 8, .inl Em))) (mD : ws[b + 3]? = some (A 3, .inl (cJ, 100, .inr (.inl D0)))) (hN1 : 1 ≤ N) (hN5 : N ≤ 5) {u : Nat} (hs8 : u < 8) {o : Option (Nat → Nat → Int64)} (hc : Em u = 0 → lm_Cl N (lm_mx R u) o) : Met l y_M_closeShape w_M_closeShape ({ frames := 3, cells := 0, slots := 0, locals := 50 } : Room) (gw_Pc D classes (gT cJ cI cZ cS) [.ref (A 0), .int (nI u)] ws sz) (va_Qi (fun r w => (∃ F, w[b + 3]? = some (A 3, .inl (cJ, 100, .inr (.inl F))) ∧ lm_csR N (Em u) o D0 F r) ∧ gF (b + 3) (b + 4) ws w) (gw_B D classes (gT cJ cI cZ cS) ws sz) (va_A ws sz)) 0 0 (va_A ws sz) := by
  refine gw_head (by decide) (Nat.le_of_ble_eq_true rfl) (fun p e s m below meth c hsz hx hb hr hlocks hml hown hnm hts hK hN hP hD hS hA ls hl => ?_)
  have hown : s.vm.findClass R_M = some m.cls := hown
  have hT : ∀ w ∈ wG, w ∈ Cond.code y_M_closeShape b_M_closeShape 2 (some .boolean) :: wG := gd_t _
  have hF : CallFix p m c b_M_closeShape 2 s ([.ref (A 0), .int (nI u)] : List Value).toArray (Cond.code y_M_closeShape b_M_closeShape 2 (some .boolean) :: wG) R_M := ⟨hx, hb, hml, hown, hts⟩
  have hl : lv_has ls 2 [(0, .ref (A 0)), (1, .int (nI u))] := hl
  have hfr : gF (b + 3) (b + 4) ws ws := gF.rf
  refine lv_aload_n hx hb d_M_closeShape_0 rfl (lv_at hl 0 rfl) ?_
  refine gf_M_13 hF hT hK hP m0 rfl d_M_closeShape_1 ?_
  refine lv_iload_n hx hb d_M_closeShape_4 rfl (lv_at hl 1 rfl) ?_
  refine g_zald (t0 := 2) (k := u) hx hb hK hP mE rfl (by omega) (by omega) d_M_closeShape_5 ?_
  refine lv_if_eq (tgt := 11) hx hb d_M_closeShape_6 (by decide) (fun c1 => ?_) (fun c1 => ?_)
  · refine lv_aload_n hx hb d_M_closeShape_11 rfl (lv_at hl 0 rfl) ?_
    refine lv_iload_n hx hb d_M_closeShape_12 rfl (lv_at hl 1 rfl) ?_
    refine gw_cv (gc_M_77 (As := [.int (nI u)]) (rest := []) hF hT (c_M_loadRows m0 mR mD hN1 hN5 (u := u) (by omega)) ⟨(Nat.le_of_ble_eq_true rfl), (Nat.le_of_ble_eq_true rfl)⟩ rfl rfl hK hN hP hD m0 rfl hl.1 rfl (Nat.le_of_ble_eq_true rfl) d_M_closeShape_13 ⟨(Nat.le_of_ble_eq_true rfl), (Nat.le_of_ble_eq_true rfl)⟩) hD hS hA (fun w H locs hw hP hD hS => ?_)
    obtain ⟨mD, hf⟩ := hw
    have m0 := hf.at m0 (by omega)
    have mR := hf.at mR (by omega)
    have mE := hf.at mE (by omega)
    have hfr := hfr.in hf (by omega) (by omega)
    refine lv_aload_n hx hb d_M_closeShape_16 rfl (lv_at hl 0 rfl) ?_
    refine gw_ci (gc_M_69 (As := []) (rest := []) hF hT (c_M_close m0 mD hN1 hN5 (lm_ag_ld hN5) (hc c1)) ⟨(Nat.le_of_ble_eq_true rfl), (Nat.le_of_ble_eq_true rfl)⟩ rfl rfl hK hN hP hD m0 rfl hl.1 rfl (Nat.le_of_ble_eq_true rfl) d_M_closeShape_17 ⟨(Nat.le_of_ble_eq_true rfl), (Nat.le_of_ble_eq_true rfl)⟩) hD hS hA (fun r2 w H locs hw hP hD hS => ?_)
    obtain ⟨⟨F3, mD, h_r2⟩, hf⟩ := hw
    have m0 := hf.at m0 (by omega)
    have mR := hf.at mR (by omega)
    have mE := hf.at mE (by omega)
    have hfr := hfr.in hf (by omega) (by omega)
    exact gw_zret hx hb hr hlocks hK hP hD hS (Nat.le_of_ble_eq_true rfl) (Nat.le_of_ble_eq_true rfl) h_r2.z d_M_closeShape_20 ⟨⟨_, mD, Or.inr ⟨c1, h_r2⟩⟩, hfr⟩
  · refine lv_iconst (v := nI 0) hx hb d_M_closeShape_9 (by decide) ?_
    exact gw_zret hx hb hr hlocks hK hP hD hS (Nat.le_of_ble_eq_true rfl) (Nat.le_of_ble_eq_true rfl) rfl d_M_closeShape_10 ⟨⟨_, mD, Or.inl ⟨c1, rfl, rfl⟩⟩, hfr⟩

set_option maxHeartbeats 4000000 in
set_option maxRecDepth 100000 in
theorem c_M_closeMade {l : Launch} {D : va_G} {cJ cI cZ cS : ClassId} {ws : va_W} {sz : Nat} {b N nm : Nat} {A : Nat → Nat} {th : Int32} {D0 : Nat → Int64} {Md : Nat → Int64} (m0 : ws[b]? = some (A 0, .inr (3, [.int th, .int (nI N), .ref (A 1), .ref (A 2), .ref (A 3), .ref (A 4), .ref (A 5), .ref (A 6), .int (nI nm), .ref (A 7), .ref (A 8), .ref (A 9), .ref (A 10)]))) (mD : ws[b + 3]? = some (A 3, .inl (cJ, 100, .inr (.inl D0)))) (mM : ws[b + 5]? = some (A 5, .inl (cJ, 100, .inr (.inl Md)))) (hN1 : 1 ≤ N) (hN5 : N ≤ 5) {X : Nat → Nat → Int64} (hX : lm_ag N Md X) {o : Option (Nat → Nat → Int64)} (hc : lm_Cl N (fun i k => lm_db i k (X i k)) o) : Met l y_M_closeMade w_M_closeMade ({ frames := 3, cells := 0, slots := 0, locals := 50 } : Room) (gw_Pc D classes (gT cJ cI cZ cS) [.ref (A 0)] ws sz) (va_Qi (fun r w => (∃ F, w[b + 3]? = some (A 3, .inl (cJ, 100, .inr (.inl F))) ∧ lm_res N o F r) ∧ gF (b + 3) (b + 4) ws w) (gw_B D classes (gT cJ cI cZ cS) ws sz) (va_A ws sz)) 0 0 (va_A ws sz) := by
  refine gw_head (by decide) (Nat.le_of_ble_eq_true rfl) (fun p e s m below meth c hsz hx hb hr hlocks hml hown hnm hts hK hN hP hD hS hA ls hl => ?_)
  have hown : s.vm.findClass R_M = some m.cls := hown
  have hT : ∀ w ∈ wG, w ∈ Cond.code y_M_closeMade b_M_closeMade 5 (some .boolean) :: wG := gd_t _
  have hF : CallFix p m c b_M_closeMade 5 s ([.ref (A 0)] : List Value).toArray (Cond.code y_M_closeMade b_M_closeMade 5 (some .boolean) :: wG) R_M := ⟨hx, hb, hml, hown, hts⟩
  have hl : lv_has ls 5 [(0, .ref (A 0))] := hl
  have hfr : gF (b + 3) (b + 4) ws ws := gF.rf
  refine lv_iconst (v := nI 0) hx hb d_M_closeMade_0 (by decide) ?_
  refine lv_istore_n (lv' := [(1, .int (nI 0)), (0, .ref (A 0))]) hx hb d_M_closeMade_1 rfl hl (by decide) rfl (fun ls hl => ?_)
  have lp_2 : ∀ (dd i : Nat), i + dd = (2 * N) → ∀ (w : va_W) (H : Heap) (locs : List Loc) (ls : Array Slot), w[b]? = some (A 0, .inr (3, [.int th, .int (nI N), .ref (A 1), .ref (A 2), .ref (A 3), .ref (A 4), .ref (A 5), .ref (A 6), .int (nI nm), .ref (A 7), .ref (A 8), .ref (A 9), .ref (A 10)])) → w[b + 3]? = some (A 3, .inl (cJ, 100, .inr (.inl (lm_md Md (2 * N) i D0)))) → w[b + 5]? = some (A 5, .inl (cJ, 100, .inr (.inl Md))) → gF (b + 3) (b + 4) ws w → va_P D classes w H → va_D (va_A ws sz) w → va_S (va_A ws sz) s.heap H locs → lv_has ls 5 [(1, .int (nI i)), (0, .ref (A 0))] → W p l e ({ frames := 3, cells := 0, slots := 0, locals := 50 } : Room) s m ([.ref (A 0)] : List Value).toArray below meth c H locs 0 0 (MQ below (va_Qi (fun r w => (∃ F, w[b + 3]? = some (A 3, .inl (cJ, 100, .inr (.inl F))) ∧ lm_res N o F r) ∧ gF (b + 3) (b + 4) ws w) (gw_B D classes (gT cJ cI cZ cS) ws sz) (va_A ws sz)) ([.ref (A 0)] : List Value).toArray s 0 0 (va_A ws sz)) (F0 m 2 ls []) := by
    intro dd
    induction dd with
    | zero =>
      intro i e_i w H locs ls m0 mD mM hfr hP hD hS hl
      have e0_i : (2 * N) = i := by omega
      subst e0_i
      refine lv_iload_n hx hb d_M_closeMade_2 rfl (lv_at hl 0 rfl) ?_
      refine lv_iconst (v := nI 2) hx hb d_M_closeMade_3 (by decide) ?_
      refine lv_aload_n hx hb d_M_closeMade_4 rfl (lv_at hl 1 rfl) ?_
      refine gf_M_42 hF hT hK hP m0 rfl d_M_closeMade_5 ?_
      refine lv_imul hx hb d_M_closeMade_8 ?_
      refine gx_i (y := nI (2 * N)) (pk_mul _ _) ?_
      refine lv_icmp_ge (tgt := 81) hx hb d_M_closeMade_9 (by decide) (fun c1 => ?_) (fun c1 => ?_)
      · have c1 := (nI_leI (a := (2 * N)) (b := (2 * N)) (by omega) (by omega)).mp c1
        refine lv_aload_n hx hb d_M_closeMade_81 rfl (lv_at hl 1 rfl) ?_
        refine gw_ci (gc_M_69 (As := []) (rest := []) hF hT (c_M_close m0 mD hN1 hN5 (lm_ag_md hN5 hX) hc) ⟨(Nat.le_of_ble_eq_true rfl), (Nat.le_of_ble_eq_true rfl)⟩ rfl rfl hK hN hP hD m0 rfl hl.1 rfl (Nat.le_of_ble_eq_true rfl) d_M_closeMade_82 ⟨(Nat.le_of_ble_eq_true rfl), (Nat.le_of_ble_eq_true rfl)⟩) hD hS hA (fun r2 w H locs hw hP hD hS => ?_)
        obtain ⟨⟨F3, mD, h_r2⟩, hf⟩ := hw
        have m0 := hf.at m0 (by omega)
        have mM := hf.at mM (by omega)
        have hfr := hfr.in hf (by omega) (by omega)
        exact gw_zret hx hb hr hlocks hK hP hD hS (Nat.le_of_ble_eq_true rfl) (Nat.le_of_ble_eq_true rfl) h_r2.z d_M_closeMade_85 ⟨⟨_, mD, h_r2⟩, hfr⟩
      · have c1 : ¬ (2 * N ≤ (2 * N)) := fun z => c1 ((nI_leI (a := (2 * N)) (b := (2 * N)) (by omega) (by omega)).mpr z)
        exfalso; omega
    | succ dd ih_2 =>
      intro i e_i w H locs ls m0 mD mM hfr hP hD hS hl
      refine lv_iload_n hx hb d_M_closeMade_2 rfl (lv_at hl 0 rfl) ?_
      refine lv_iconst (v := nI 2) hx hb d_M_closeMade_3 (by decide) ?_
      refine lv_aload_n hx hb d_M_closeMade_4 rfl (lv_at hl 1 rfl) ?_
      refine gf_M_42 hF hT hK hP m0 rfl d_M_closeMade_5 ?_
      refine lv_imul hx hb d_M_closeMade_8 ?_
      refine gx_i (y := nI (2 * N)) (pk_mul _ _) ?_
      refine lv_icmp_ge (tgt := 81) hx hb d_M_closeMade_9 (by decide) (fun c4 => ?_) (fun c4 => ?_)
      · have c4 := (nI_leI (a := (2 * N)) (b := i) (by omega) (by omega)).mp c4
        exfalso; omega
      · have c4 : ¬ (2 * N ≤ i) := fun z => c4 ((nI_leI (a := (2 * N)) (b := i) (by omega) (by omega)).mpr z)
        refine lv_iconst (v := nI 0) hx hb d_M_closeMade_12 (by decide) ?_
        refine lv_istore_n (lv' := [(2, .int (nI 0)), (1, .int (nI i)), (0, .ref (A 0))]) hx hb d_M_closeMade_13 rfl hl (by decide) rfl (fun ls hl => ?_)
        have lp_14 : ∀ (dd k : Nat), k + dd = (2 * N) → ∀ (w : va_W) (H : Heap) (locs : List Loc) (ls : Array Slot), w[b]? = some (A 0, .inr (3, [.int th, .int (nI N), .ref (A 1), .ref (A 2), .ref (A 3), .ref (A 4), .ref (A 5), .ref (A 6), .int (nI nm), .ref (A 7), .ref (A 8), .ref (A 9), .ref (A 10)])) → w[b + 3]? = some (A 3, .inl (cJ, 100, .inr (.inl (lm_mdI Md i k (lm_md Md (2 * N) i D0))))) → w[b + 5]? = some (A 5, .inl (cJ, 100, .inr (.inl Md))) → gF (b + 3) (b + 4) ws w → va_P D classes w H → va_D (va_A ws sz) w → va_S (va_A ws sz) s.heap H locs → lv_has ls 5 [(2, .int (nI k)), (1, .int (nI i)), (0, .ref (A 0))] → W p l e ({ frames := 3, cells := 0, slots := 0, locals := 50 } : Room) s m ([.ref (A 0)] : List Value).toArray below meth c H locs 0 0 (MQ below (va_Qi (fun r w => (∃ F, w[b + 3]? = some (A 3, .inl (cJ, 100, .inr (.inl F))) ∧ lm_res N o F r) ∧ gF (b + 3) (b + 4) ws w) (gw_B D classes (gT cJ cI cZ cS) ws sz) (va_A ws sz)) ([.ref (A 0)] : List Value).toArray s 0 0 (va_A ws sz)) (F0 m 14 ls []) := by
          intro dd
          induction dd with
          | zero =>
            intro k e_k w H locs ls m0 mD mM hfr hP hD hS hl
            have e0_k : (2 * N) = k := by omega
            subst e0_k
            refine lv_iload_n hx hb d_M_closeMade_14 rfl (lv_at hl 0 rfl) ?_
            refine lv_iconst (v := nI 2) hx hb d_M_closeMade_15 (by decide) ?_
            refine lv_aload_n hx hb d_M_closeMade_16 rfl (lv_at hl 2 rfl) ?_
            refine gf_M_42 hF hT hK hP m0 rfl d_M_closeMade_17 ?_
            refine lv_imul hx hb d_M_closeMade_20 ?_
            refine gx_i (y := nI (2 * N)) (pk_mul _ _) ?_
            refine lv_icmp_ge (tgt := 75) hx hb d_M_closeMade_21 (by decide) (fun c5 => ?_) (fun c5 => ?_)
            · have c5 := (nI_leI (a := (2 * N)) (b := (2 * N)) (by omega) (by omega)).mp c5
              refine lv_iinc (v := nI (i + 1)) (lv' := [(1, .int (nI (i + 1))), (2, .int (nI (2 * N))), (0, .ref (A 0))]) hx hb d_M_closeMade_75 hl (k := 1) rfl (gx_inc _) (by decide) rfl (fun ls hl => ?_)
              refine lv_goto (tgt := 2) hx hb d_M_closeMade_78 (by decide) ?_
              exact ih_2 (i + 1) (by omega) _ _ _ _ m0 mD mM hfr hP hD hS (lv_sub hl [0, 2] rfl)
            · have c5 : ¬ (2 * N ≤ (2 * N)) := fun z => c5 ((nI_leI (a := (2 * N)) (b := (2 * N)) (by omega) (by omega)).mpr z)
              exfalso; omega
          | succ dd ih_14 =>
            intro k e_k w H locs ls m0 mD mM hfr hP hD hS hl
            refine lv_iload_n hx hb d_M_closeMade_14 rfl (lv_at hl 0 rfl) ?_
            refine lv_iconst (v := nI 2) hx hb d_M_closeMade_15 (by decide) ?_
            refine lv_aload_n hx hb d_M_closeMade_16 rfl (lv_at hl 2 rfl) ?_
            refine gf_M_42 hF hT hK hP m0 rfl d_M_closeMade_17 ?_
            refine lv_imul hx hb d_M_closeMade_20 ?_
            refine gx_i (y := nI (2 * N)) (pk_mul _ _) ?_
            refine lv_icmp_ge (tgt := 75) hx hb d_M_closeMade_21 (by decide) (fun c6 => ?_) (fun c6 => ?_)
            · have c6 := (nI_leI (a := (2 * N)) (b := k) (by omega) (by omega)).mp c6
              exfalso; omega
            · have c6 : ¬ (2 * N ≤ k) := fun z => c6 ((nI_leI (a := (2 * N)) (b := k) (by omega) (by omega)).mpr z)
              refine lv_aload_n hx hb d_M_closeMade_24 rfl (lv_at hl 2 rfl) ?_
              refine gf_M_23 hF hT hK hP m0 rfl d_M_closeMade_25 ?_
              refine lv_bipush (v := nI 10) hx hb d_M_closeMade_28 (by decide) ?_
              refine lv_iload_n hx hb d_M_closeMade_30 rfl (lv_at hl 1 rfl) ?_
              refine lv_imul hx hb d_M_closeMade_31 ?_
              refine gx_i (y := nI (10 * i)) (pk_mul _ _) ?_
              refine lv_iload_n hx hb d_M_closeMade_32 rfl (lv_at hl 0 rfl) ?_
              refine lv_iadd hx hb d_M_closeMade_33 ?_
              refine gx_i (y := nI ((10 * i) + k)) (nI_add _ _) ?_
              refine g_lald (t0 := 0) (k := (10 * i) + k) hx hb hK hP mM rfl (by omega) (by omega) d_M_closeMade_34 ?_
              refine lv_lstore_n (lv' := [(3, .long (Md ((10 * i) + k))), (2, .int (nI k)), (1, .int (nI i)), (0, .ref (A 0))]) hx hb d_M_closeMade_35 rfl hl (by decide) rfl (fun ls hl => ?_)
              refine lv_aload_n hx hb d_M_closeMade_36 rfl (lv_at hl 3 rfl) ?_
              refine gf_M_17 hF hT hK hP m0 rfl d_M_closeMade_37 ?_
              refine lv_bipush (v := nI 10) hx hb d_M_closeMade_40 (by decide) ?_
              refine lv_iload_n hx hb d_M_closeMade_42 rfl (lv_at hl 2 rfl) ?_
              refine lv_imul hx hb d_M_closeMade_43 ?_
              refine gx_i (y := nI (10 * i)) (pk_mul _ _) ?_
              refine lv_iload_n hx hb d_M_closeMade_44 rfl (lv_at hl 1 rfl) ?_
              refine lv_iadd hx hb d_M_closeMade_45 ?_
              refine gx_i (y := nI ((10 * i) + k)) (nI_add _ _) ?_
              have mg_68 : ∀ (H : Heap) (locs : List Loc), va_P D classes w H → va_D (va_A ws sz) w → va_S (va_A ws sz) s.heap H locs → W p l e ({ frames := 3, cells := 0, slots := 0, locals := 50 } : Room) s m ([.ref (A 0)] : List Value).toArray below meth c H locs 0 0 (MQ below (va_Qi (fun r w => (∃ F, w[b + 3]? = some (A 3, .inl (cJ, 100, .inr (.inl F))) ∧ lm_res N o F r) ∧ gF (b + 3) (b + 4) ws w) (gw_B D classes (gT cJ cI cZ cS) ws sz) (va_A ws sz)) ([.ref (A 0)] : List Value).toArray s 0 0 (va_A ws sz)) (F0 m 68 ls [.long (lm_db i k (Md (10 * i + k))), .int (nI ((10 * i) + k)), .ref (A 3)]) := by
                intro H locs hP hD hS
                refine g_last (t0 := 0) (k := (10 * i) + k) hx hb hK hP hD hS mD rfl (by omega) (by omega) d_M_closeMade_68 (fun w H locs mD hf hP hD hS => ?_)
                have m0 := hf.at m0 (by omega)
                have mM := hf.at mM (by omega)
                have hfr := hfr.in hf (by omega) (by omega)
                refine lv_iinc (v := nI (k + 1)) (lv' := [(2, .int (nI (k + 1))), (3, .long (Md ((10 * i) + k))), (1, .int (nI i)), (0, .ref (A 0))]) hx hb d_M_closeMade_69 hl (k := 1) rfl (gx_inc _) (by decide) rfl (fun ls hl => ?_)
                refine lv_goto (tgt := 14) hx hb d_M_closeMade_72 (by decide) ?_
                exact ih_14 (k + 1) (by omega) _ _ _ _ m0 mD mM hfr hP hD hS (lv_sub hl [0, 2, 3] rfl)
              refine lv_iload_n hx hb d_M_closeMade_46 rfl (lv_at hl 2 rfl) ?_
              refine lv_iload_n hx hb d_M_closeMade_47 rfl (lv_at hl 1 rfl) ?_
              refine lv_icmp_ne (tgt := 67) hx hb d_M_closeMade_48 (by decide) (fun c7 => ?_) (fun c7 => ?_)
              · have c7 : ¬ (i = k) := fun z => c7 ((nI_eq (a := i) (b := k) (by omega) (by omega)).mpr z)
                refine lv_lload_n hx hb d_M_closeMade_67 rfl (lv_at hl 0 rfl) ?_
                exact gx_l (y := lm_db i k (Md (10 * i + k))) (by unfold lm_db; rw [if_neg c7]) (mg_68 _ _ hP hD hS)
              · have c7 := (nI_eq (a := i) (b := k) (by omega) (by omega)).mp c7
                refine lv_lload_n hx hb d_M_closeMade_51 rfl (lv_at hl 0 rfl) ?_
                refine lv_ldc2 (v := lr_E) hx hb hown (hts _ (hT _ wm_3_124)) d_M_closeMade_52 ?_
                refine gx_leq (tgt := 67) hx hb d_M_closeMade_55 d_M_closeMade_56 (by decide) (fun c8 => ?_) (fun c8 => ?_)
                · refine lv_lload_n hx hb d_M_closeMade_67 rfl (lv_at hl 0 rfl) ?_
                  exact gx_l (y := lm_db i k (Md (10 * i + k))) (by unfold lm_db; rw [if_pos c7, if_pos c8]) (mg_68 _ _ hP hD hS)
                · refine lv_ldc2 (v := (2 : Int64)) hx hb hown (hts _ (hT _ wm_3_202)) d_M_closeMade_59 ?_
                  refine lv_lload_n hx hb d_M_closeMade_62 rfl (lv_at hl 0 rfl) ?_
                  refine lv_lmul hx hb d_M_closeMade_63 ?_
                  refine lv_goto (tgt := 68) hx hb d_M_closeMade_64 (by decide) ?_
                  exact gx_l (y := lm_db i k (Md (10 * i + k))) (by unfold lm_db; rw [if_pos c7, if_neg c8]) (mg_68 _ _ hP hD hS)
        exact lp_14 (2 * N) 0 (by omega) _ _ _ _ m0 mD mM hfr hP hD hS (lv_sub hl [0, 1, 2] rfl)
  exact lp_2 (2 * N) 0 (by omega) _ _ _ _ m0 mD mM hfr hP hD hS (lv_sub hl [0, 1] rfl)

set_option maxHeartbeats 4000000 in
set_option maxRecDepth 100000 in
theorem c_M_keepMade {l : Launch} {D : va_G} {cJ cI cZ cS : ClassId} {ws : va_W} {sz : Nat} {b N nm : Nat} {A : Nat → Nat} {th : Int32} {R : Nat → Int64} {Em : Nat → Int32} {Md : Nat → Int64} (m0 : ws[b]? = some (A 0, .inr (3, [.int th, .int (nI N), .ref (A 1), .ref (A 2), .ref (A 3), .ref (A 4), .ref (A 5), .ref (A 6), .int (nI nm), .ref (A 7), .ref (A 8), .ref (A 9), .ref (A 10)]))) (mR : ws[b + 1]? = some (A 1, .inl (cJ, 800, .inr (.inl R)))) (mE : ws[b + 2]? = some (A 2, .inl (cZ, 8, .inl Em))) (mM : ws[b + 5]? = some (A 5, .inl (cJ, 100, .inr (.inl Md)))) (hN1 : 1 ≤ N) (hN5 : N ≤ 5) {u : Nat} (hs8 : u < 8) : Met l y_M_keepMade w_M_keepMade ({ frames := 2, cells := 0, slots := 0, locals := 22 } : Room) (gw_Pc D classes (gT cJ cI cZ cS) [.ref (A 0), .int (nI u)] ws sz) (va_Qv (fun w => (w[b + 1]? = some (A 1, .inl (cJ, 800, .inr (.inl (lm_km Md (2 * N) u (2 * N) (lm_none R u))))) ∧ w[b + 2]? = some (A 2, .inl (cZ, 8, .inl (upd (upd Em u (nI 1)) u (nI 0))))) ∧ gF (b + 1) (b + 3) ws w) (gw_B D classes (gT cJ cI cZ cS) ws sz) (va_A ws sz)) 0 0 (va_A ws sz) := by
  refine gw_head (by decide) (Nat.le_of_ble_eq_true rfl) (fun p e s m below meth c hsz hx hb hr hlocks hml hown hnm hts hK hN hP hD hS hA ls hl => ?_)
  have hown : s.vm.findClass R_M = some m.cls := hown
  have hT : ∀ w ∈ wG, w ∈ Cond.code y_M_keepMade b_M_keepMade 4 none :: wG := gd_t _
  have hF : CallFix p m c b_M_keepMade 4 s ([.ref (A 0), .int (nI u)] : List Value).toArray (Cond.code y_M_keepMade b_M_keepMade 4 none :: wG) R_M := ⟨hx, hb, hml, hown, hts⟩
  have hl : lv_has ls 4 [(0, .ref (A 0)), (1, .int (nI u))] := hl
  have hfr : gF (b + 1) (b + 3) ws ws := gF.rf
  refine lv_aload_n hx hb d_M_keepMade_0 rfl (lv_at hl 0 rfl) ?_
  refine lv_iload_n hx hb d_M_keepMade_1 rfl (lv_at hl 1 rfl) ?_
  refine gw_cv (gc_M_73 (As := [.int (nI u)]) (rest := []) hF hT (c_M_none m0 mR mE hN1 hN5 (u := u) (by omega)) ⟨(Nat.le_of_ble_eq_true rfl), (Nat.le_of_ble_eq_true rfl)⟩ rfl rfl hK hN hP hD m0 rfl hl.1 rfl (Nat.le_of_ble_eq_true rfl) d_M_keepMade_2 ⟨(Nat.le_of_ble_eq_true rfl), (Nat.le_of_ble_eq_true rfl)⟩) hD hS hA (fun w H locs hw hP hD hS => ?_)
  obtain ⟨⟨mR, mE⟩, hf⟩ := hw
  have m0 := hf.at m0 (by omega)
  have mM := hf.at mM (by omega)
  have hfr := hfr.in hf (by omega) (by omega)
  refine lv_aload_n hx hb d_M_keepMade_5 rfl (lv_at hl 0 rfl) ?_
  refine gf_M_13 hF hT hK hP m0 rfl d_M_keepMade_6 ?_
  refine lv_iload_n hx hb d_M_keepMade_9 rfl (lv_at hl 1 rfl) ?_
  refine lv_iconst (v := nI 0) hx hb d_M_keepMade_10 (by decide) ?_
  refine g_zast (t0 := 2) (k := u) hx hb hK hP hD hS mE rfl (by omega) (by omega) (Or.inl rfl) d_M_keepMade_11 (fun w H locs mE hf hP hD hS => ?_)
  have m0 := hf.at m0 (by omega)
  have mR := hf.at mR (by omega)
  have mM := hf.at mM (by omega)
  have hfr := hfr.in hf (by omega) (by omega)
  refine lv_iconst (v := nI 0) hx hb d_M_keepMade_12 (by decide) ?_
  refine lv_istore_n (lv' := [(2, .int (nI 0)), (0, .ref (A 0)), (1, .int (nI u))]) hx hb d_M_keepMade_13 rfl hl (by decide) rfl (fun ls hl => ?_)
  have lp_14 : ∀ (dd i : Nat), i + dd = (2 * N) → ∀ (w : va_W) (H : Heap) (locs : List Loc) (ls : Array Slot), w[b]? = some (A 0, .inr (3, [.int th, .int (nI N), .ref (A 1), .ref (A 2), .ref (A 3), .ref (A 4), .ref (A 5), .ref (A 6), .int (nI nm), .ref (A 7), .ref (A 8), .ref (A 9), .ref (A 10)])) → w[b + 1]? = some (A 1, .inl (cJ, 800, .inr (.inl (lm_km Md (2 * N) u i (lm_none R u))))) → w[b + 2]? = some (A 2, .inl (cZ, 8, .inl (upd (upd Em u (nI 1)) u (nI 0)))) → w[b + 5]? = some (A 5, .inl (cJ, 100, .inr (.inl Md))) → gF (b + 1) (b + 3) ws w → va_P D classes w H → va_D (va_A ws sz) w → va_S (va_A ws sz) s.heap H locs → lv_has ls 4 [(2, .int (nI i)), (0, .ref (A 0)), (1, .int (nI u))] → W p l e ({ frames := 2, cells := 0, slots := 0, locals := 22 } : Room) s m ([.ref (A 0), .int (nI u)] : List Value).toArray below meth c H locs 0 0 (MQ below (va_Qv (fun w => (w[b + 1]? = some (A 1, .inl (cJ, 800, .inr (.inl (lm_km Md (2 * N) u (2 * N) (lm_none R u))))) ∧ w[b + 2]? = some (A 2, .inl (cZ, 8, .inl (upd (upd Em u (nI 1)) u (nI 0))))) ∧ gF (b + 1) (b + 3) ws w) (gw_B D classes (gT cJ cI cZ cS) ws sz) (va_A ws sz)) ([.ref (A 0), .int (nI u)] : List Value).toArray s 0 0 (va_A ws sz)) (F0 m 14 ls []) := by
    intro dd
    induction dd with
    | zero =>
      intro i e_i w H locs ls m0 mR mE mM hfr hP hD hS hl
      have e0_i : (2 * N) = i := by omega
      subst e0_i
      refine lv_iload_n hx hb d_M_keepMade_14 rfl (lv_at hl 0 rfl) ?_
      refine lv_iconst (v := nI 2) hx hb d_M_keepMade_15 (by decide) ?_
      refine lv_aload_n hx hb d_M_keepMade_16 rfl (lv_at hl 1 rfl) ?_
      refine gf_M_42 hF hT hK hP m0 rfl d_M_keepMade_17 ?_
      refine lv_imul hx hb d_M_keepMade_20 ?_
      refine gx_i (y := nI (2 * N)) (pk_mul _ _) ?_
      refine lv_icmp_ge (tgt := 75) hx hb d_M_keepMade_21 (by decide) (fun c1 => ?_) (fun c1 => ?_)
      · have c1 := (nI_leI (a := (2 * N)) (b := (2 * N)) (by omega) (by omega)).mp c1
        exact gw_vret hx hb hr hlocks hK hP hD hS (Nat.le_of_ble_eq_true rfl) (Nat.le_of_ble_eq_true rfl) d_M_keepMade_75 ⟨⟨mR, mE⟩, hfr⟩
      · have c1 : ¬ (2 * N ≤ (2 * N)) := fun z => c1 ((nI_leI (a := (2 * N)) (b := (2 * N)) (by omega) (by omega)).mpr z)
        exfalso; omega
    | succ dd ih_14 =>
      intro i e_i w H locs ls m0 mR mE mM hfr hP hD hS hl
      refine lv_iload_n hx hb d_M_keepMade_14 rfl (lv_at hl 0 rfl) ?_
      refine lv_iconst (v := nI 2) hx hb d_M_keepMade_15 (by decide) ?_
      refine lv_aload_n hx hb d_M_keepMade_16 rfl (lv_at hl 1 rfl) ?_
      refine gf_M_42 hF hT hK hP m0 rfl d_M_keepMade_17 ?_
      refine lv_imul hx hb d_M_keepMade_20 ?_
      refine gx_i (y := nI (2 * N)) (pk_mul _ _) ?_
      refine lv_icmp_ge (tgt := 75) hx hb d_M_keepMade_21 (by decide) (fun c2 => ?_) (fun c2 => ?_)
      · have c2 := (nI_leI (a := (2 * N)) (b := i) (by omega) (by omega)).mp c2
        exfalso; omega
      · have c2 : ¬ (2 * N ≤ i) := fun z => c2 ((nI_leI (a := (2 * N)) (b := i) (by omega) (by omega)).mpr z)
        refine lv_iconst (v := nI 0) hx hb d_M_keepMade_24 (by decide) ?_
        refine lv_istore_n (lv' := [(3, .int (nI 0)), (2, .int (nI i)), (0, .ref (A 0)), (1, .int (nI u))]) hx hb d_M_keepMade_25 rfl hl (by decide) rfl (fun ls hl => ?_)
        have lp_26 : ∀ (dd k : Nat), k + dd = (2 * N) → ∀ (w : va_W) (H : Heap) (locs : List Loc) (ls : Array Slot), w[b]? = some (A 0, .inr (3, [.int th, .int (nI N), .ref (A 1), .ref (A 2), .ref (A 3), .ref (A 4), .ref (A 5), .ref (A 6), .int (nI nm), .ref (A 7), .ref (A 8), .ref (A 9), .ref (A 10)])) → w[b + 1]? = some (A 1, .inl (cJ, 800, .inr (.inl (lm_kmI Md u i k (lm_km Md (2 * N) u i (lm_none R u)))))) → w[b + 2]? = some (A 2, .inl (cZ, 8, .inl (upd (upd Em u (nI 1)) u (nI 0)))) → w[b + 5]? = some (A 5, .inl (cJ, 100, .inr (.inl Md))) → gF (b + 1) (b + 3) ws w → va_P D classes w H → va_D (va_A ws sz) w → va_S (va_A ws sz) s.heap H locs → lv_has ls 4 [(3, .int (nI k)), (2, .int (nI i)), (0, .ref (A 0)), (1, .int (nI u))] → W p l e ({ frames := 2, cells := 0, slots := 0, locals := 22 } : Room) s m ([.ref (A 0), .int (nI u)] : List Value).toArray below meth c H locs 0 0 (MQ below (va_Qv (fun w => (w[b + 1]? = some (A 1, .inl (cJ, 800, .inr (.inl (lm_km Md (2 * N) u (2 * N) (lm_none R u))))) ∧ w[b + 2]? = some (A 2, .inl (cZ, 8, .inl (upd (upd Em u (nI 1)) u (nI 0))))) ∧ gF (b + 1) (b + 3) ws w) (gw_B D classes (gT cJ cI cZ cS) ws sz) (va_A ws sz)) ([.ref (A 0), .int (nI u)] : List Value).toArray s 0 0 (va_A ws sz)) (F0 m 26 ls []) := by
          intro dd
          induction dd with
          | zero =>
            intro k e_k w H locs ls m0 mR mE mM hfr hP hD hS hl
            have e0_k : (2 * N) = k := by omega
            subst e0_k
            refine lv_iload_n hx hb d_M_keepMade_26 rfl (lv_at hl 0 rfl) ?_
            refine lv_iconst (v := nI 2) hx hb d_M_keepMade_27 (by decide) ?_
            refine lv_aload_n hx hb d_M_keepMade_28 rfl (lv_at hl 2 rfl) ?_
            refine gf_M_42 hF hT hK hP m0 rfl d_M_keepMade_29 ?_
            refine lv_imul hx hb d_M_keepMade_32 ?_
            refine gx_i (y := nI (2 * N)) (pk_mul _ _) ?_
            refine lv_icmp_ge (tgt := 69) hx hb d_M_keepMade_33 (by decide) (fun c3 => ?_) (fun c3 => ?_)
            · have c3 := (nI_leI (a := (2 * N)) (b := (2 * N)) (by omega) (by omega)).mp c3
              refine lv_iinc (v := nI (i + 1)) (lv' := [(2, .int (nI (i + 1))), (3, .int (nI (2 * N))), (0, .ref (A 0)), (1, .int (nI u))]) hx hb d_M_keepMade_69 hl (k := 1) rfl (gx_inc _) (by decide) rfl (fun ls hl => ?_)
              refine lv_goto (tgt := 14) hx hb d_M_keepMade_72 (by decide) ?_
              exact ih_14 (i + 1) (by omega) _ _ _ _ m0 mR mE mM hfr hP hD hS (lv_sub hl [0, 2, 3] rfl)
            · have c3 : ¬ (2 * N ≤ (2 * N)) := fun z => c3 ((nI_leI (a := (2 * N)) (b := (2 * N)) (by omega) (by omega)).mpr z)
              exfalso; omega
          | succ dd ih_26 =>
            intro k e_k w H locs ls m0 mR mE mM hfr hP hD hS hl
            refine lv_iload_n hx hb d_M_keepMade_26 rfl (lv_at hl 0 rfl) ?_
            refine lv_iconst (v := nI 2) hx hb d_M_keepMade_27 (by decide) ?_
            refine lv_aload_n hx hb d_M_keepMade_28 rfl (lv_at hl 2 rfl) ?_
            refine gf_M_42 hF hT hK hP m0 rfl d_M_keepMade_29 ?_
            refine lv_imul hx hb d_M_keepMade_32 ?_
            refine gx_i (y := nI (2 * N)) (pk_mul _ _) ?_
            refine lv_icmp_ge (tgt := 69) hx hb d_M_keepMade_33 (by decide) (fun c4 => ?_) (fun c4 => ?_)
            · have c4 := (nI_leI (a := (2 * N)) (b := k) (by omega) (by omega)).mp c4
              exfalso; omega
            · have c4 : ¬ (2 * N ≤ k) := fun z => c4 ((nI_leI (a := (2 * N)) (b := k) (by omega) (by omega)).mpr z)
              refine lv_aload_n hx hb d_M_keepMade_36 rfl (lv_at hl 2 rfl) ?_
              refine gf_M_7 hF hT hK hP m0 rfl d_M_keepMade_37 ?_
              refine lv_bipush (v := nI 100) hx hb d_M_keepMade_40 (by decide) ?_
              refine lv_iload_n hx hb d_M_keepMade_42 rfl (lv_at hl 3 rfl) ?_
              refine lv_imul hx hb d_M_keepMade_43 ?_
              refine gx_i (y := nI (100 * u)) (pk_mul _ _) ?_
              refine lv_bipush (v := nI 10) hx hb d_M_keepMade_44 (by decide) ?_
              refine lv_iload_n hx hb d_M_keepMade_46 rfl (lv_at hl 1 rfl) ?_
              refine lv_imul hx hb d_M_keepMade_47 ?_
              refine gx_i (y := nI (10 * i)) (pk_mul _ _) ?_
              refine lv_iadd hx hb d_M_keepMade_48 ?_
              refine gx_i (y := nI ((100 * u) + (10 * i))) (nI_add _ _) ?_
              refine lv_iload_n hx hb d_M_keepMade_49 rfl (lv_at hl 0 rfl) ?_
              refine lv_iadd hx hb d_M_keepMade_50 ?_
              refine gx_i (y := nI (((100 * u) + (10 * i)) + k)) (nI_add _ _) ?_
              refine lv_aload_n hx hb d_M_keepMade_51 rfl (lv_at hl 2 rfl) ?_
              refine gf_M_23 hF hT hK hP m0 rfl d_M_keepMade_52 ?_
              refine lv_bipush (v := nI 10) hx hb d_M_keepMade_55 (by decide) ?_
              refine lv_iload_n hx hb d_M_keepMade_57 rfl (lv_at hl 1 rfl) ?_
              refine lv_imul hx hb d_M_keepMade_58 ?_
              refine gx_i (y := nI (10 * i)) (pk_mul _ _) ?_
              refine lv_iload_n hx hb d_M_keepMade_59 rfl (lv_at hl 0 rfl) ?_
              refine lv_iadd hx hb d_M_keepMade_60 ?_
              refine gx_i (y := nI ((10 * i) + k)) (nI_add _ _) ?_
              refine g_lald (t0 := 0) (k := (10 * i) + k) hx hb hK hP mM rfl (by omega) (by omega) d_M_keepMade_61 ?_
              refine g_last (t0 := 0) (k := ((100 * u) + (10 * i)) + k) hx hb hK hP hD hS mR rfl (by omega) (by omega) d_M_keepMade_62 (fun w H locs mR hf hP hD hS => ?_)
              have m0 := hf.at m0 (by omega)
              have mE := hf.at mE (by omega)
              have mM := hf.at mM (by omega)
              have hfr := hfr.in hf (by omega) (by omega)
              refine lv_iinc (v := nI (k + 1)) (lv' := [(3, .int (nI (k + 1))), (2, .int (nI i)), (0, .ref (A 0)), (1, .int (nI u))]) hx hb d_M_keepMade_63 hl (k := 0) rfl (gx_inc _) (by decide) rfl (fun ls hl => ?_)
              refine lv_goto (tgt := 26) hx hb d_M_keepMade_66 (by decide) ?_
              exact ih_26 (k + 1) (by omega) _ _ _ _ m0 mR mE mM hfr hP hD hS (lv_sub hl [0, 1, 2, 3] rfl)
        exact lp_26 (2 * N) 0 (by omega) _ _ _ _ m0 mR mE mM hfr hP hD hS (lv_sub hl [0, 1, 2, 3] rfl)
  exact lp_14 (2 * N) 0 (by omega) _ _ _ _ m0 mR mE mM hfr hP hD hS (lv_sub hl [0, 1, 2] rfl)

set_option maxHeartbeats 4000000 in
set_option maxRecDepth 100000 in
theorem c_M_keepClosed {l : Launch} {D : va_G} {cJ cI cZ cS : ClassId} {ws : va_W} {sz : Nat} {b N nm : Nat} {A : Nat → Nat} {th : Int32} {R : Nat → Int64} {Em : Nat → Int32} {D0 : Nat → Int64} (m0 : ws[b]? = some (A 0, .inr (3, [.int th, .int (nI N), .ref (A 1), .ref (A 2), .ref (A 3), .ref (A 4), .ref (A 5), .ref (A 6), .int (nI nm), .ref (A 7), .ref (A 8), .ref (A 9), .ref (A 10)]))) (mR : ws[b + 1]? = some (A 1, .inl (cJ, 800, .inr (.inl R)))) (mE : ws[b + 2]? = some (A 2, .inl (cZ, 8, .inl Em))) (mD : ws[b + 3]? = some (A 3, .inl (cJ, 100, .inr (.inl D0)))) (hN1 : 1 ≤ N) (hN5 : N ≤ 5) {u : Nat} (hs8 : u < 8) {z : Int32} : Met l y_M_keepClosed w_M_keepClosed ({ frames := 2, cells := 0, slots := 0, locals := 22 } : Room) (gw_Pc D classes (gT cJ cI cZ cS) [.ref (A 0), .int (nI u), .int z] ws sz) (va_Qi (fun r w => ((z = 0 ∧ r = nI 0 ∧ w[b + 1]? = some (A 1, .inl (cJ, 800, .inr (.inl (lm_none R u)))) ∧ w[b + 2]? = some (A 2, .inl (cZ, 8, .inl (upd (upd Em u (nI 1)) u (nI 1))))) ∨ (¬ z = 0 ∧ r = nI 1 ∧ w[b + 1]? = some (A 1, .inl (cJ, 800, .inr (.inl (lm_kc D0 (2 * N) u (2 * N) (lm_none R u))))) ∧ w[b + 2]? = some (A 2, .inl (cZ, 8, .inl (upd (upd Em u (nI 1)) u (nI 0)))))) ∧ gF (b + 1) (b + 3) ws w) (gw_B D classes (gT cJ cI cZ cS) ws sz) (va_A ws sz)) 0 0 (va_A ws sz) := by
  refine gw_head (by decide) (Nat.le_of_ble_eq_true rfl) (fun p e s m below meth c hsz hx hb hr hlocks hml hown hnm hts hK hN hP hD hS hA ls hl => ?_)
  have hown : s.vm.findClass R_M = some m.cls := hown
  have hT : ∀ w ∈ wG, w ∈ Cond.code y_M_keepClosed b_M_keepClosed 7 (some .int) :: wG := gd_t _
  have hF : CallFix p m c b_M_keepClosed 7 s ([.ref (A 0), .int (nI u), .int z] : List Value).toArray (Cond.code y_M_keepClosed b_M_keepClosed 7 (some .int) :: wG) R_M := ⟨hx, hb, hml, hown, hts⟩
  have hl : lv_has ls 7 [(0, .ref (A 0)), (1, .int (nI u)), (2, .int z)] := hl
  have hfr : gF (b + 1) (b + 3) ws ws := gF.rf
  by_cases c1 : z = 0
  · refine lv_aload_n hx hb d_M_keepClosed_0 rfl (lv_at hl 0 rfl) ?_
    refine lv_iload_n hx hb d_M_keepClosed_1 rfl (lv_at hl 1 rfl) ?_
    refine gw_cv (gc_M_73 (As := [.int (nI u)]) (rest := []) hF hT (c_M_none m0 mR mE hN1 hN5 (u := u) (by omega)) ⟨(Nat.le_of_ble_eq_true rfl), (Nat.le_of_ble_eq_true rfl)⟩ rfl rfl hK hN hP hD m0 rfl hl.1 rfl (Nat.le_of_ble_eq_true rfl) d_M_keepClosed_2 ⟨(Nat.le_of_ble_eq_true rfl), (Nat.le_of_ble_eq_true rfl)⟩) hD hS hA (fun w H locs hw hP hD hS => ?_)
    obtain ⟨⟨mR, mE⟩, hf⟩ := hw
    have m0 := hf.at m0 (by omega)
    have mD := hf.at mD (by omega)
    have hfr := hfr.in hf (by omega) (by omega)
    refine lv_aload_n hx hb d_M_keepClosed_5 rfl (lv_at hl 0 rfl) ?_
    refine gf_M_13 hF hT hK hP m0 rfl d_M_keepClosed_6 ?_
    refine lv_iload_n hx hb d_M_keepClosed_9 rfl (lv_at hl 1 rfl) ?_
    refine lv_iload_n hx hb d_M_keepClosed_10 rfl (lv_at hl 2 rfl) ?_
    refine lv_if_ne (tgt := 18) hx hb d_M_keepClosed_11 (by decide) (fun c2 => ?_) (fun c2 => ?_)
    · exact absurd c1 c2
    · refine lv_iconst (v := nI 1) hx hb d_M_keepClosed_14 (by decide) ?_
      refine lv_goto (tgt := 19) hx hb d_M_keepClosed_15 (by decide) ?_
      refine g_zast (t0 := 2) (k := u) hx hb hK hP hD hS mE rfl (by omega) (by omega) (by first | exact Or.inl rfl | exact Or.inr rfl) d_M_keepClosed_19 (fun w H locs mE hf hP hD hS => ?_)
      have m0 := hf.at m0 (by omega)
      have mR := hf.at mR (by omega)
      have mD := hf.at mD (by omega)
      have hfr := hfr.in hf (by omega) (by omega)
      refine lv_iconst (v := nI 0) hx hb d_M_keepClosed_20 (by decide) ?_
      refine lv_istore_n (lv' := [(3, .int (nI 0)), (0, .ref (A 0)), (1, .int (nI u)), (2, .int z)]) hx hb d_M_keepClosed_21 rfl hl (by decide) rfl (fun ls hl => ?_)
      refine lv_iload_n hx hb d_M_keepClosed_22 rfl (lv_at hl 0 rfl) ?_
      refine lv_iconst (v := nI 2) hx hb d_M_keepClosed_23 (by decide) ?_
      refine lv_aload_n hx hb d_M_keepClosed_24 rfl (lv_at hl 1 rfl) ?_
      refine gf_M_42 hF hT hK hP m0 rfl d_M_keepClosed_25 ?_
      refine lv_imul hx hb d_M_keepClosed_28 ?_
      refine gx_i (y := nI (2 * N)) (pk_mul _ _) ?_
      refine lv_icmp_ge (tgt := 128) hx hb d_M_keepClosed_29 (by decide) (fun c3 => ?_) (fun c3 => ?_)
      · have c3 := (nI_leI (a := (2 * N)) (b := 0) (by omega) (by omega)).mp c3
        refine lv_iload_n hx hb d_M_keepClosed_128 rfl (lv_at hl 3 rfl) ?_
        refine lv_if_eq (tgt := 136) hx hb d_M_keepClosed_129 (by decide) (fun c4 => ?_) (fun c4 => ?_)
        · refine lv_iconst (v := nI 0) hx hb d_M_keepClosed_136 (by decide) ?_
          exact gw_iret hx hb hr hlocks hK hP hD hS (Nat.le_of_ble_eq_true rfl) (Nat.le_of_ble_eq_true rfl) d_M_keepClosed_137 ⟨Or.inl ⟨c1, rfl, mR, mE⟩, hfr⟩
        · exact absurd c2 c4
      · have c3 : ¬ (2 * N ≤ 0) := fun z => c3 ((nI_leI (a := (2 * N)) (b := 0) (by omega) (by omega)).mpr z)
        refine lv_iload_n hx hb d_M_keepClosed_32 rfl (lv_at hl 3 rfl) ?_
        refine lv_if_eq (tgt := 128) hx hb d_M_keepClosed_33 (by decide) (fun c5 => ?_) (fun c5 => ?_)
        · refine lv_iload_n hx hb d_M_keepClosed_128 rfl (lv_at hl 3 rfl) ?_
          refine lv_if_eq (tgt := 136) hx hb d_M_keepClosed_129 (by decide) (fun c6 => ?_) (fun c6 => ?_)
          · refine lv_iconst (v := nI 0) hx hb d_M_keepClosed_136 (by decide) ?_
            exact gw_iret hx hb hr hlocks hK hP hD hS (Nat.le_of_ble_eq_true rfl) (Nat.le_of_ble_eq_true rfl) d_M_keepClosed_137 ⟨Or.inl ⟨c1, rfl, mR, mE⟩, hfr⟩
          · exact absurd c5 c6
        · exact absurd c2 c5
  · refine lv_aload_n hx hb d_M_keepClosed_0 rfl (lv_at hl 0 rfl) ?_
    refine lv_iload_n hx hb d_M_keepClosed_1 rfl (lv_at hl 1 rfl) ?_
    refine gw_cv (gc_M_73 (As := [.int (nI u)]) (rest := []) hF hT (c_M_none m0 mR mE hN1 hN5 (u := u) (by omega)) ⟨(Nat.le_of_ble_eq_true rfl), (Nat.le_of_ble_eq_true rfl)⟩ rfl rfl hK hN hP hD m0 rfl hl.1 rfl (Nat.le_of_ble_eq_true rfl) d_M_keepClosed_2 ⟨(Nat.le_of_ble_eq_true rfl), (Nat.le_of_ble_eq_true rfl)⟩) hD hS hA (fun w H locs hw hP hD hS => ?_)
    obtain ⟨⟨mR, mE⟩, hf⟩ := hw
    have m0 := hf.at m0 (by omega)
    have mD := hf.at mD (by omega)
    have hfr := hfr.in hf (by omega) (by omega)
    refine lv_aload_n hx hb d_M_keepClosed_5 rfl (lv_at hl 0 rfl) ?_
    refine gf_M_13 hF hT hK hP m0 rfl d_M_keepClosed_6 ?_
    refine lv_iload_n hx hb d_M_keepClosed_9 rfl (lv_at hl 1 rfl) ?_
    refine lv_iload_n hx hb d_M_keepClosed_10 rfl (lv_at hl 2 rfl) ?_
    refine lv_if_ne (tgt := 18) hx hb d_M_keepClosed_11 (by decide) (fun c7 => ?_) (fun c7 => ?_)
    · refine lv_iconst (v := nI 0) hx hb d_M_keepClosed_18 (by decide) ?_
      refine g_zast (t0 := 2) (k := u) hx hb hK hP hD hS mE rfl (by omega) (by omega) (by first | exact Or.inl rfl | exact Or.inr rfl) d_M_keepClosed_19 (fun w H locs mE hf hP hD hS => ?_)
      have m0 := hf.at m0 (by omega)
      have mR := hf.at mR (by omega)
      have mD := hf.at mD (by omega)
      have hfr := hfr.in hf (by omega) (by omega)
      refine lv_iconst (v := nI 0) hx hb d_M_keepClosed_20 (by decide) ?_
      refine lv_istore_n (lv' := [(3, .int (nI 0)), (0, .ref (A 0)), (1, .int (nI u)), (2, .int z)]) hx hb d_M_keepClosed_21 rfl hl (by decide) rfl (fun ls hl => ?_)
      have lp_22 : ∀ (dd i : Nat), i + dd = (2 * N) → ∀ (w : va_W) (H : Heap) (locs : List Loc) (ls : Array Slot), w[b]? = some (A 0, .inr (3, [.int th, .int (nI N), .ref (A 1), .ref (A 2), .ref (A 3), .ref (A 4), .ref (A 5), .ref (A 6), .int (nI nm), .ref (A 7), .ref (A 8), .ref (A 9), .ref (A 10)])) → w[b + 1]? = some (A 1, .inl (cJ, 800, .inr (.inl (lm_kc D0 (2 * N) u i (lm_none R u))))) → w[b + 2]? = some (A 2, .inl (cZ, 8, .inl (upd (upd Em u (nI 1)) u (nI 0)))) → w[b + 3]? = some (A 3, .inl (cJ, 100, .inr (.inl D0))) → gF (b + 1) (b + 3) ws w → va_P D classes w H → va_D (va_A ws sz) w → va_S (va_A ws sz) s.heap H locs → lv_has ls 7 [(3, .int (nI i)), (0, .ref (A 0)), (1, .int (nI u)), (2, .int z)] → W p l e ({ frames := 2, cells := 0, slots := 0, locals := 22 } : Room) s m ([.ref (A 0), .int (nI u), .int z] : List Value).toArray below meth c H locs 0 0 (MQ below (va_Qi (fun r w => ((z = 0 ∧ r = nI 0 ∧ w[b + 1]? = some (A 1, .inl (cJ, 800, .inr (.inl (lm_none R u)))) ∧ w[b + 2]? = some (A 2, .inl (cZ, 8, .inl (upd (upd Em u (nI 1)) u (nI 1))))) ∨ (¬ z = 0 ∧ r = nI 1 ∧ w[b + 1]? = some (A 1, .inl (cJ, 800, .inr (.inl (lm_kc D0 (2 * N) u (2 * N) (lm_none R u))))) ∧ w[b + 2]? = some (A 2, .inl (cZ, 8, .inl (upd (upd Em u (nI 1)) u (nI 0)))))) ∧ gF (b + 1) (b + 3) ws w) (gw_B D classes (gT cJ cI cZ cS) ws sz) (va_A ws sz)) ([.ref (A 0), .int (nI u), .int z] : List Value).toArray s 0 0 (va_A ws sz)) (F0 m 22 ls []) := by
        intro dd
        induction dd with
        | zero =>
          intro i e_i w H locs ls m0 mR mE mD hfr hP hD hS hl
          have e0_i : (2 * N) = i := by omega
          subst e0_i
          refine lv_iload_n hx hb d_M_keepClosed_22 rfl (lv_at hl 0 rfl) ?_
          refine lv_iconst (v := nI 2) hx hb d_M_keepClosed_23 (by decide) ?_
          refine lv_aload_n hx hb d_M_keepClosed_24 rfl (lv_at hl 1 rfl) ?_
          refine gf_M_42 hF hT hK hP m0 rfl d_M_keepClosed_25 ?_
          refine lv_imul hx hb d_M_keepClosed_28 ?_
          refine gx_i (y := nI (2 * N)) (pk_mul _ _) ?_
          refine lv_icmp_ge (tgt := 128) hx hb d_M_keepClosed_29 (by decide) (fun c8 => ?_) (fun c8 => ?_)
          · have c8 := (nI_leI (a := (2 * N)) (b := (2 * N)) (by omega) (by omega)).mp c8
            refine lv_iload_n hx hb d_M_keepClosed_128 rfl (lv_at hl 3 rfl) ?_
            refine lv_if_eq (tgt := 136) hx hb d_M_keepClosed_129 (by decide) (fun c9 => ?_) (fun c9 => ?_)
            · exact absurd c9 c7
            · refine lv_iconst (v := nI 1) hx hb d_M_keepClosed_132 (by decide) ?_
              refine lv_goto (tgt := 137) hx hb d_M_keepClosed_133 (by decide) ?_
              exact gw_iret hx hb hr hlocks hK hP hD hS (Nat.le_of_ble_eq_true rfl) (Nat.le_of_ble_eq_true rfl) d_M_keepClosed_137 ⟨Or.inr ⟨c1, rfl, mR, mE⟩, hfr⟩
          · have c8 : ¬ (2 * N ≤ (2 * N)) := fun z => c8 ((nI_leI (a := (2 * N)) (b := (2 * N)) (by omega) (by omega)).mpr z)
            exfalso; omega
        | succ dd ih_22 =>
          intro i e_i w H locs ls m0 mR mE mD hfr hP hD hS hl
          refine lv_iload_n hx hb d_M_keepClosed_22 rfl (lv_at hl 0 rfl) ?_
          refine lv_iconst (v := nI 2) hx hb d_M_keepClosed_23 (by decide) ?_
          refine lv_aload_n hx hb d_M_keepClosed_24 rfl (lv_at hl 1 rfl) ?_
          refine gf_M_42 hF hT hK hP m0 rfl d_M_keepClosed_25 ?_
          refine lv_imul hx hb d_M_keepClosed_28 ?_
          refine gx_i (y := nI (2 * N)) (pk_mul _ _) ?_
          refine lv_icmp_ge (tgt := 128) hx hb d_M_keepClosed_29 (by decide) (fun c10 => ?_) (fun c10 => ?_)
          · have c10 := (nI_leI (a := (2 * N)) (b := i) (by omega) (by omega)).mp c10
            exfalso; omega
          · have c10 : ¬ (2 * N ≤ i) := fun z => c10 ((nI_leI (a := (2 * N)) (b := i) (by omega) (by omega)).mpr z)
            refine lv_iload_n hx hb d_M_keepClosed_32 rfl (lv_at hl 3 rfl) ?_
            refine lv_if_eq (tgt := 128) hx hb d_M_keepClosed_33 (by decide) (fun c11 => ?_) (fun c11 => ?_)
            · exact absurd c11 c7
            · refine lv_iconst (v := nI 0) hx hb d_M_keepClosed_36 (by decide) ?_
              refine lv_istore (lv' := [(4, .int (nI 0)), (3, .int (nI i)), (0, .ref (A 0)), (1, .int (nI u)), (2, .int z)]) hx hb d_M_keepClosed_37 hl (by decide) rfl (fun ls hl => ?_)
              have lp_39 : ∀ (dd k : Nat), k + dd = (2 * N) → ∀ (w : va_W) (H : Heap) (locs : List Loc) (ls : Array Slot), w[b]? = some (A 0, .inr (3, [.int th, .int (nI N), .ref (A 1), .ref (A 2), .ref (A 3), .ref (A 4), .ref (A 5), .ref (A 6), .int (nI nm), .ref (A 7), .ref (A 8), .ref (A 9), .ref (A 10)])) → w[b + 1]? = some (A 1, .inl (cJ, 800, .inr (.inl (lm_kcI D0 u i k (lm_kc D0 (2 * N) u i (lm_none R u)))))) → w[b + 2]? = some (A 2, .inl (cZ, 8, .inl (upd (upd Em u (nI 1)) u (nI 0)))) → w[b + 3]? = some (A 3, .inl (cJ, 100, .inr (.inl D0))) → gF (b + 1) (b + 3) ws w → va_P D classes w H → va_D (va_A ws sz) w → va_S (va_A ws sz) s.heap H locs → lv_has ls 7 [(4, .int (nI k)), (3, .int (nI i)), (0, .ref (A 0)), (1, .int (nI u)), (2, .int z)] → W p l e ({ frames := 2, cells := 0, slots := 0, locals := 22 } : Room) s m ([.ref (A 0), .int (nI u), .int z] : List Value).toArray below meth c H locs 0 0 (MQ below (va_Qi (fun r w => ((z = 0 ∧ r = nI 0 ∧ w[b + 1]? = some (A 1, .inl (cJ, 800, .inr (.inl (lm_none R u)))) ∧ w[b + 2]? = some (A 2, .inl (cZ, 8, .inl (upd (upd Em u (nI 1)) u (nI 1))))) ∨ (¬ z = 0 ∧ r = nI 1 ∧ w[b + 1]? = some (A 1, .inl (cJ, 800, .inr (.inl (lm_kc D0 (2 * N) u (2 * N) (lm_none R u))))) ∧ w[b + 2]? = some (A 2, .inl (cZ, 8, .inl (upd (upd Em u (nI 1)) u (nI 0)))))) ∧ gF (b + 1) (b + 3) ws w) (gw_B D classes (gT cJ cI cZ cS) ws sz) (va_A ws sz)) ([.ref (A 0), .int (nI u), .int z] : List Value).toArray s 0 0 (va_A ws sz)) (F0 m 39 ls []) := by
                intro dd
                induction dd with
                | zero =>
                  intro k e_k w H locs ls m0 mR mE mD hfr hP hD hS hl
                  have e0_k : (2 * N) = k := by omega
                  subst e0_k
                  refine lv_iload hx hb d_M_keepClosed_39 (lv_at hl 0 rfl) ?_
                  refine lv_iconst (v := nI 2) hx hb d_M_keepClosed_41 (by decide) ?_
                  refine lv_aload_n hx hb d_M_keepClosed_42 rfl (lv_at hl 2 rfl) ?_
                  refine gf_M_42 hF hT hK hP m0 rfl d_M_keepClosed_43 ?_
                  refine lv_imul hx hb d_M_keepClosed_46 ?_
                  refine gx_i (y := nI (2 * N)) (pk_mul _ _) ?_
                  refine lv_icmp_ge (tgt := 122) hx hb d_M_keepClosed_47 (by decide) (fun c12 => ?_) (fun c12 => ?_)
                  · have c12 := (nI_leI (a := (2 * N)) (b := (2 * N)) (by omega) (by omega)).mp c12
                    refine lv_iinc (v := nI (i + 1)) (lv' := [(3, .int (nI (i + 1))), (4, .int (nI (2 * N))), (0, .ref (A 0)), (1, .int (nI u)), (2, .int z)]) hx hb d_M_keepClosed_122 hl (k := 1) rfl (gx_inc _) (by decide) rfl (fun ls hl => ?_)
                    refine lv_goto (tgt := 22) hx hb d_M_keepClosed_125 (by decide) ?_
                    exact ih_22 (i + 1) (by omega) _ _ _ _ m0 mR mE mD hfr hP hD hS (lv_sub hl [0, 2, 3, 4] rfl)
                  · have c12 : ¬ (2 * N ≤ (2 * N)) := fun z => c12 ((nI_leI (a := (2 * N)) (b := (2 * N)) (by omega) (by omega)).mpr z)
                    exfalso; omega
                | succ dd ih_39 =>
                  intro k e_k w H locs ls m0 mR mE mD hfr hP hD hS hl
                  refine lv_iload hx hb d_M_keepClosed_39 (lv_at hl 0 rfl) ?_
                  refine lv_iconst (v := nI 2) hx hb d_M_keepClosed_41 (by decide) ?_
                  refine lv_aload_n hx hb d_M_keepClosed_42 rfl (lv_at hl 2 rfl) ?_
                  refine gf_M_42 hF hT hK hP m0 rfl d_M_keepClosed_43 ?_
                  refine lv_imul hx hb d_M_keepClosed_46 ?_
                  refine gx_i (y := nI (2 * N)) (pk_mul _ _) ?_
                  refine lv_icmp_ge (tgt := 122) hx hb d_M_keepClosed_47 (by decide) (fun c13 => ?_) (fun c13 => ?_)
                  · have c13 := (nI_leI (a := (2 * N)) (b := k) (by omega) (by omega)).mp c13
                    exfalso; omega
                  · have c13 : ¬ (2 * N ≤ k) := fun z => c13 ((nI_leI (a := (2 * N)) (b := k) (by omega) (by omega)).mpr z)
                    refine lv_iload hx hb d_M_keepClosed_50 (lv_at hl 0 rfl) ?_
                    refine lv_iload_n hx hb d_M_keepClosed_52 rfl (lv_at hl 1 rfl) ?_
                    refine gw_ci0 (gc_M_53 (As := [.int (nI i)]) (rest := [.int (nI k)]) hF hT (c_M_opposite (by omega)) ⟨(Nat.le_of_ble_eq_true rfl), (Nat.le_of_ble_eq_true rfl)⟩ rfl rfl hK hN hP hD rfl hl.1 rfl (Nat.le_of_ble_eq_true rfl) d_M_keepClosed_53 ⟨(Nat.le_of_ble_eq_true rfl), (Nat.le_of_ble_eq_true rfl)⟩) hD hS hA (fun r14 H locs e_r14 hP hD hS => ?_)
                    subst e_r14
                    have hop := lr_op_ev (x := 5) (i := i) (by omega)
                    refine lv_icmp_eq (tgt := 116) hx hb d_M_keepClosed_56 (by decide) (fun c15 => ?_) (fun c15 => ?_)
                    · have c15 := (nI_eq (a := k) (b := (lr_op i)) (by omega) (by omega)).mp c15
                      refine lv_iinc (v := nI (k + 1)) (lv' := [(4, .int (nI (k + 1))), (3, .int (nI i)), (0, .ref (A 0)), (1, .int (nI u)), (2, .int z)]) hx hb d_M_keepClosed_116 hl (k := 0) rfl (gx_inc _) (by decide) rfl (fun ls hl => ?_)
                      refine lv_goto (tgt := 39) hx hb d_M_keepClosed_119 (by decide) ?_
                      have eB16 : lm_kcI D0 u i (k + 1) (lm_kc D0 (2 * N) u i (lm_none R u)) = lm_kcI D0 u i k (lm_kc D0 (2 * N) u i (lm_none R u)) := by show (if k = lr_op i then _ else _) = _; rw [if_pos c15]; rfl
                      rw [← eB16] at mR
                      exact ih_39 (k + 1) (by omega) _ _ _ _ m0 mR mE mD hfr hP hD hS (lv_sub hl [0, 1, 2, 3, 4] rfl)
                    · have c15 : ¬ (k = lr_op i) := fun z => c15 ((nI_eq (a := k) (b := (lr_op i)) (by omega) (by omega)).mpr z)
                      refine lv_aload_n hx hb d_M_keepClosed_59 rfl (lv_at hl 2 rfl) ?_
                      refine gf_M_17 hF hT hK hP m0 rfl d_M_keepClosed_60 ?_
                      refine lv_bipush (v := nI 10) hx hb d_M_keepClosed_63 (by decide) ?_
                      refine lv_iload_n hx hb d_M_keepClosed_65 rfl (lv_at hl 1 rfl) ?_
                      refine lv_imul hx hb d_M_keepClosed_66 ?_
                      refine gx_i (y := nI (10 * i)) (pk_mul _ _) ?_
                      refine lv_iload hx hb d_M_keepClosed_67 (lv_at hl 0 rfl) ?_
                      refine lv_iadd hx hb d_M_keepClosed_69 ?_
                      refine gx_i (y := nI ((10 * i) + k)) (nI_add _ _) ?_
                      refine g_lald (t0 := 0) (k := (10 * i) + k) hx hb hK hP mD rfl (by omega) (by omega) d_M_keepClosed_70 ?_
                      refine lv_lstore (lv' := [(5, .long (D0 ((10 * i) + k))), (4, .int (nI k)), (3, .int (nI i)), (0, .ref (A 0)), (1, .int (nI u)), (2, .int z)]) hx hb d_M_keepClosed_71 hl (by decide) rfl (fun ls hl => ?_)
                      refine lv_aload_n hx hb d_M_keepClosed_73 rfl (lv_at hl 3 rfl) ?_
                      refine gf_M_7 hF hT hK hP m0 rfl d_M_keepClosed_74 ?_
                      refine lv_bipush (v := nI 100) hx hb d_M_keepClosed_77 (by decide) ?_
                      refine lv_iload_n hx hb d_M_keepClosed_79 rfl (lv_at hl 4 rfl) ?_
                      refine lv_imul hx hb d_M_keepClosed_80 ?_
                      refine gx_i (y := nI (100 * u)) (pk_mul _ _) ?_
                      refine lv_bipush (v := nI 10) hx hb d_M_keepClosed_81 (by decide) ?_
                      refine lv_iload_n hx hb d_M_keepClosed_83 rfl (lv_at hl 2 rfl) ?_
                      refine lv_imul hx hb d_M_keepClosed_84 ?_
                      refine gx_i (y := nI (10 * i)) (pk_mul _ _) ?_
                      refine lv_iadd hx hb d_M_keepClosed_85 ?_
                      refine gx_i (y := nI ((100 * u) + (10 * i))) (nI_add _ _) ?_
                      refine lv_iload hx hb d_M_keepClosed_86 (lv_at hl 1 rfl) ?_
                      refine lv_iadd hx hb d_M_keepClosed_88 ?_
                      refine gx_i (y := nI (((100 * u) + (10 * i)) + k)) (nI_add _ _) ?_
                      have mg_115 : ∀ (H : Heap) (locs : List Loc), va_P D classes w H → va_D (va_A ws sz) w → va_S (va_A ws sz) s.heap H locs → W p l e ({ frames := 2, cells := 0, slots := 0, locals := 22 } : Room) s m ([.ref (A 0), .int (nI u), .int z] : List Value).toArray below meth c H locs 0 0 (MQ below (va_Qi (fun r w => ((z = 0 ∧ r = nI 0 ∧ w[b + 1]? = some (A 1, .inl (cJ, 800, .inr (.inl (lm_none R u)))) ∧ w[b + 2]? = some (A 2, .inl (cZ, 8, .inl (upd (upd Em u (nI 1)) u (nI 1))))) ∨ (¬ z = 0 ∧ r = nI 1 ∧ w[b + 1]? = some (A 1, .inl (cJ, 800, .inr (.inl (lm_kc D0 (2 * N) u (2 * N) (lm_none R u))))) ∧ w[b + 2]? = some (A 2, .inl (cZ, 8, .inl (upd (upd Em u (nI 1)) u (nI 0)))))) ∧ gF (b + 1) (b + 3) ws w) (gw_B D classes (gT cJ cI cZ cS) ws sz) (va_A ws sz)) ([.ref (A 0), .int (nI u), .int z] : List Value).toArray s 0 0 (va_A ws sz)) (F0 m 115 ls [.long (lm_hv i k (D0 (10 * i + k))), .int (nI (((100 * u) + (10 * i)) + k)), .ref (A 1)]) := by
                        intro H locs hP hD hS
                        refine g_last (t0 := 0) (k := ((100 * u) + (10 * i)) + k) hx hb hK hP hD hS mR rfl (by omega) (by omega) d_M_keepClosed_115 (fun w H locs mR hf hP hD hS => ?_)
                        have m0 := hf.at m0 (by omega)
                        have mE := hf.at mE (by omega)
                        have mD := hf.at mD (by omega)
                        have hfr := hfr.in hf (by omega) (by omega)
                        refine lv_iinc (v := nI (k + 1)) (lv' := [(4, .int (nI (k + 1))), (5, .long (D0 ((10 * i) + k))), (3, .int (nI i)), (0, .ref (A 0)), (1, .int (nI u)), (2, .int z)]) hx hb d_M_keepClosed_116 hl (k := 1) rfl (gx_inc _) (by decide) rfl (fun ls hl => ?_)
                        refine lv_goto (tgt := 39) hx hb d_M_keepClosed_119 (by decide) ?_
                        have eB17 : lm_kcI D0 u i (k + 1) (lm_kc D0 (2 * N) u i (lm_none R u)) = vp_updL (lm_kcI D0 u i k (lm_kc D0 (2 * N) u i (lm_none R u))) (((100 * u) + (10 * i)) + k) (lm_hv i k (D0 (10 * i + k))) := by show (if k = lr_op i then _ else _) = _; rw [if_neg c15]; rfl
                        rw [← eB17] at mR
                        exact ih_39 (k + 1) (by omega) _ _ _ _ m0 mR mE mD hfr hP hD hS (lv_sub hl [0, 2, 3, 4, 5] rfl)
                      refine lv_iload_n hx hb d_M_keepClosed_89 rfl (lv_at hl 2 rfl) ?_
                      refine lv_iload hx hb d_M_keepClosed_90 (lv_at hl 1 rfl) ?_
                      refine lv_icmp_ne (tgt := 113) hx hb d_M_keepClosed_92 (by decide) (fun c18 => ?_) (fun c18 => ?_)
                      · have c18 : ¬ (i = k) := fun z => c18 ((nI_eq (a := i) (b := k) (by omega) (by omega)).mpr z)
                        refine lv_lload hx hb d_M_keepClosed_113 (lv_at hl 0 rfl) ?_
                        exact gx_l (y := lm_hv i k (D0 (10 * i + k))) (by unfold lm_hv; rw [if_neg c18]) (mg_115 _ _ hP hD hS)
                      · have c18 := (nI_eq (a := i) (b := k) (by omega) (by omega)).mp c18
                        refine lv_lload hx hb d_M_keepClosed_95 (lv_at hl 0 rfl) ?_
                        refine lv_ldc2 (v := lr_E) hx hb hown (hts _ (hT _ wm_3_124)) d_M_keepClosed_97 ?_
                        refine gx_leq (tgt := 113) hx hb d_M_keepClosed_100 d_M_keepClosed_101 (by decide) (fun c19 => ?_) (fun c19 => ?_)
                        · refine lv_lload hx hb d_M_keepClosed_113 (lv_at hl 0 rfl) ?_
                          exact gx_l (y := lm_hv i k (D0 (10 * i + k))) (by unfold lm_hv; rw [if_pos c18, if_pos c19]) (mg_115 _ _ hP hD hS)
                        · refine lv_lload hx hb d_M_keepClosed_104 (lv_at hl 0 rfl) ?_
                          refine lv_ldc2 (v := (2 : Int64)) hx hb hown (hts _ (hT _ wm_3_202)) d_M_keepClosed_106 ?_
                          refine lv_ldiv hx hb d_M_keepClosed_109 (by decide) ?_
                          refine lv_goto (tgt := 115) hx hb d_M_keepClosed_110 (by decide) ?_
                          exact gx_l (y := lm_hv i k (D0 (10 * i + k))) (by unfold lm_hv; rw [if_pos c18, if_neg c19]) (mg_115 _ _ hP hD hS)
              exact lp_39 (2 * N) 0 (by omega) _ _ _ _ m0 mR mE mD hfr hP hD hS (lv_sub hl [0, 1, 2, 3, 4] rfl)
      exact lp_22 (2 * N) 0 (by omega) _ _ _ _ m0 mR mE mD hfr hP hD hS (lv_sub hl [0, 1, 2, 3] rfl)
    · exact absurd c7 c1

set_option maxHeartbeats 4000000 in
set_option maxRecDepth 100000 in
theorem c_M_turn {l : Launch} {D : va_G} {cJ cI cZ cS : ClassId} {ws : va_W} {sz : Nat} {b N nm : Nat} {A : Nat → Nat} {th : Int32} {D0 : Nat → Int64} {O : Nat → Int64} (m0 : ws[b]? = some (A 0, .inr (3, [.int th, .int (nI N), .ref (A 1), .ref (A 2), .ref (A 3), .ref (A 4), .ref (A 5), .ref (A 6), .int (nI nm), .ref (A 7), .ref (A 8), .ref (A 9), .ref (A 10)]))) (mD : ws[b + 3]? = some (A 3, .inl (cJ, 100, .inr (.inl D0)))) (mO : ws[b + 4]? = some (A 4, .inl (cJ, 100, .inr (.inl O)))) (hN1 : 1 ≤ N) (hN5 : N ≤ 5) {X : Nat → Nat → Int64} (hX : lm_ag N D0 X) {x : Nat} (hx1 : 1 ≤ x) (hxN : x ≤ N) {z : Int32} {v : Int64} : Met l y_M_turn w_M_turn ({ frames := 2, cells := 0, slots := 0, locals := 23 } : Room) (gw_Pc D classes (gT cJ cI cZ cS) [.ref (A 0), .int (nI x), .int z, .long v] ws sz) (va_Qv (fun w => (∃ F O1, w[b + 3]? = some (A 3, .inl (cJ, 100, .inr (.inl F))) ∧ w[b + 4]? = some (A 4, .inl (cJ, 100, .inr (.inl O1))) ∧ lm_ag N F (lm_tnM X z (2 * x - 2) v)) ∧ gF (b + 3) (b + 5) ws w) (gw_B D classes (gT cJ cI cZ cS) ws sz) (va_A ws sz)) 0 0 (va_A ws sz) := by
  refine gw_head (by decide) (Nat.le_of_ble_eq_true rfl) (fun p e s m below meth c hsz hx hb hr hlocks hml hown hnm hts hK hN hP hD hS hA ls hl => ?_)
  have hown : s.vm.findClass R_M = some m.cls := hown
  have hT : ∀ w ∈ wG, w ∈ Cond.code y_M_turn b_M_turn 12 none :: wG := gd_t _
  have hF : CallFix p m c b_M_turn 12 s ([.ref (A 0), .int (nI x), .int z, .long v] : List Value).toArray (Cond.code y_M_turn b_M_turn 12 none :: wG) R_M := ⟨hx, hb, hml, hown, hts⟩
  have hl : lv_has ls 12 [(0, .ref (A 0)), (1, .int (nI x)), (2, .int z), (3, .long v)] := hl
  have hfr : gF (b + 3) (b + 5) ws ws := gF.rf
  refine lv_iconst (v := nI 2) hx hb d_M_turn_0 (by decide) ?_
  refine lv_iload_n hx hb d_M_turn_1 rfl (lv_at hl 1 rfl) ?_
  refine lv_imul hx hb d_M_turn_2 ?_
  refine gx_i (y := nI (2 * x)) (pk_mul _ _) ?_
  refine lv_iconst (v := nI 2) hx hb d_M_turn_3 (by decide) ?_
  refine lv_isub hx hb d_M_turn_4 ?_
  refine gx_i (y := nI ((2 * x) - 2)) (pk_sub (by omega)) ?_
  refine lv_istore (lv' := [(5, .int (nI ((2 * x) - 2))), (0, .ref (A 0)), (1, .int (nI x)), (2, .int z), (3, .long v)]) hx hb d_M_turn_5 hl (by decide) rfl (fun ls hl => ?_)
  refine lv_iconst (v := nI 0) hx hb d_M_turn_7 (by decide) ?_
  refine lv_istore (lv' := [(6, .int (nI 0)), (5, .int (nI ((2 * x) - 2))), (0, .ref (A 0)), (1, .int (nI x)), (2, .int z), (3, .long v)]) hx hb d_M_turn_8 hl (by decide) rfl (fun ls hl => ?_)
  have lp_10 : ∀ (dd k : Nat), k + dd = 100 → ∀ (w : va_W) (H : Heap) (locs : List Loc) (ls : Array Slot), w[b]? = some (A 0, .inr (3, [.int th, .int (nI N), .ref (A 1), .ref (A 2), .ref (A 3), .ref (A 4), .ref (A 5), .ref (A 6), .int (nI nm), .ref (A 7), .ref (A 8), .ref (A 9), .ref (A 10)])) → w[b + 3]? = some (A 3, .inl (cJ, 100, .inr (.inl D0))) → w[b + 4]? = some (A 4, .inl (cJ, 100, .inr (.inl (lr_it (fun k O => vp_updL O k (D0 k)) k O)))) → gF (b + 3) (b + 5) ws w → va_P D classes w H → va_D (va_A ws sz) w → va_S (va_A ws sz) s.heap H locs → lv_has ls 12 [(6, .int (nI k)), (5, .int (nI ((2 * x) - 2))), (0, .ref (A 0)), (1, .int (nI x)), (2, .int z), (3, .long v)] → W p l e ({ frames := 2, cells := 0, slots := 0, locals := 23 } : Room) s m ([.ref (A 0), .int (nI x), .int z, .long v] : List Value).toArray below meth c H locs 0 0 (MQ below (va_Qv (fun w => (∃ F O1, w[b + 3]? = some (A 3, .inl (cJ, 100, .inr (.inl F))) ∧ w[b + 4]? = some (A 4, .inl (cJ, 100, .inr (.inl O1))) ∧ lm_ag N F (lm_tnM X z (2 * x - 2) v)) ∧ gF (b + 3) (b + 5) ws w) (gw_B D classes (gT cJ cI cZ cS) ws sz) (va_A ws sz)) ([.ref (A 0), .int (nI x), .int z, .long v] : List Value).toArray s 0 0 (va_A ws sz)) (F0 m 10 ls []) := by
    intro dd
    induction dd with
    | zero =>
      intro k e_k w H locs ls m0 mD mO hfr hP hD hS hl
      have e0_k : 100 = k := by omega
      subst e0_k
      refine lv_iload hx hb d_M_turn_10 (lv_at hl 0 rfl) ?_
      refine lv_bipush (v := nI 100) hx hb d_M_turn_12 (by decide) ?_
      refine lv_icmp_ge (tgt := 37) hx hb d_M_turn_14 (by decide) (fun c1 => ?_) (fun c1 => ?_)
      · have c1 := (nI_leI (a := 100) (b := 100) (by omega) (by omega)).mp c1
        refine lv_iconst (v := nI 0) hx hb d_M_turn_37 (by decide) ?_
        refine lv_istore (lv' := [(6, .int (nI 0)), (5, .int (nI ((2 * x) - 2))), (0, .ref (A 0)), (1, .int (nI x)), (2, .int z), (3, .long v)]) hx hb d_M_turn_38 hl (by decide) rfl (fun ls hl => ?_)
        have lp_40 : ∀ (dd i : Nat), i + dd = 10 → ∀ (w : va_W) (H : Heap) (locs : List Loc) (ls : Array Slot), w[b]? = some (A 0, .inr (3, [.int th, .int (nI N), .ref (A 1), .ref (A 2), .ref (A 3), .ref (A 4), .ref (A 5), .ref (A 6), .int (nI nm), .ref (A 7), .ref (A 8), .ref (A 9), .ref (A 10)])) → w[b + 3]? = some (A 3, .inl (cJ, 100, .inr (.inl (lm_tO (lm_cp D0 O) z (2 * x - 2) v i D0)))) → w[b + 4]? = some (A 4, .inl (cJ, 100, .inr (.inl (lr_it (fun k O => vp_updL O k (D0 k)) 100 O)))) → gF (b + 3) (b + 5) ws w → va_P D classes w H → va_D (va_A ws sz) w → va_S (va_A ws sz) s.heap H locs → lv_has ls 12 [(6, .int (nI i)), (5, .int (nI ((2 * x) - 2))), (0, .ref (A 0)), (1, .int (nI x)), (2, .int z), (3, .long v)] → W p l e ({ frames := 2, cells := 0, slots := 0, locals := 23 } : Room) s m ([.ref (A 0), .int (nI x), .int z, .long v] : List Value).toArray below meth c H locs 0 0 (MQ below (va_Qv (fun w => (∃ F O1, w[b + 3]? = some (A 3, .inl (cJ, 100, .inr (.inl F))) ∧ w[b + 4]? = some (A 4, .inl (cJ, 100, .inr (.inl O1))) ∧ lm_ag N F (lm_tnM X z (2 * x - 2) v)) ∧ gF (b + 3) (b + 5) ws w) (gw_B D classes (gT cJ cI cZ cS) ws sz) (va_A ws sz)) ([.ref (A 0), .int (nI x), .int z, .long v] : List Value).toArray s 0 0 (va_A ws sz)) (F0 m 40 ls []) := by
          intro dd
          induction dd with
          | zero =>
            intro i e_i w H locs ls m0 mD mO hfr hP hD hS hl
            have e0_i : 10 = i := by omega
            subst e0_i
            refine lv_iload hx hb d_M_turn_40 (lv_at hl 0 rfl) ?_
            refine lv_bipush (v := nI 10) hx hb d_M_turn_42 (by decide) ?_
            refine lv_icmp_ge (tgt := 219) hx hb d_M_turn_44 (by decide) (fun c2 => ?_) (fun c2 => ?_)
            · have c2 := (nI_leI (a := 10) (b := 10) (by omega) (by omega)).mp c2
              exact gw_vret hx hb hr hlocks hK hP hD hS (Nat.le_of_ble_eq_true rfl) (Nat.le_of_ble_eq_true rfl) d_M_turn_219 ⟨⟨_, _, mD, mO, lm_ag_tn hN5 (lm_ag_cp hN5 hX)⟩, hfr⟩
            · have c2 : ¬ (10 ≤ 10) := fun z => c2 ((nI_leI (a := 10) (b := 10) (by omega) (by omega)).mpr z)
              exfalso; omega
          | succ dd ih_40 =>
            intro i e_i w H locs ls m0 mD mO hfr hP hD hS hl
            refine lv_iload hx hb d_M_turn_40 (lv_at hl 0 rfl) ?_
            refine lv_bipush (v := nI 10) hx hb d_M_turn_42 (by decide) ?_
            refine lv_icmp_ge (tgt := 219) hx hb d_M_turn_44 (by decide) (fun c3 => ?_) (fun c3 => ?_)
            · have c3 := (nI_leI (a := 10) (b := i) (by omega) (by omega)).mp c3
              exfalso; omega
            · have c3 : ¬ (10 ≤ i) := fun z => c3 ((nI_leI (a := 10) (b := i) (by omega) (by omega)).mpr z)
              refine lv_iconst (v := nI 0) hx hb d_M_turn_47 (by decide) ?_
              refine lv_istore (lv' := [(7, .int (nI 0)), (6, .int (nI i)), (5, .int (nI ((2 * x) - 2))), (0, .ref (A 0)), (1, .int (nI x)), (2, .int z), (3, .long v)]) hx hb d_M_turn_48 hl (by decide) rfl (fun ls hl => ?_)
              have lp_50 : ∀ (dd k : Nat), k + dd = 10 → ∀ (w : va_W) (H : Heap) (locs : List Loc) (ls : Array Slot), w[b]? = some (A 0, .inr (3, [.int th, .int (nI N), .ref (A 1), .ref (A 2), .ref (A 3), .ref (A 4), .ref (A 5), .ref (A 6), .int (nI nm), .ref (A 7), .ref (A 8), .ref (A 9), .ref (A 10)])) → w[b + 3]? = some (A 3, .inl (cJ, 100, .inr (.inl (lm_tI (lm_cp D0 O) z (2 * x - 2) v i k (lm_tO (lm_cp D0 O) z (2 * x - 2) v i D0))))) → w[b + 4]? = some (A 4, .inl (cJ, 100, .inr (.inl (lr_it (fun k O => vp_updL O k (D0 k)) 100 O)))) → gF (b + 3) (b + 5) ws w → va_P D classes w H → va_D (va_A ws sz) w → va_S (va_A ws sz) s.heap H locs → lv_has ls 12 [(7, .int (nI k)), (6, .int (nI i)), (5, .int (nI ((2 * x) - 2))), (0, .ref (A 0)), (1, .int (nI x)), (2, .int z), (3, .long v)] → W p l e ({ frames := 2, cells := 0, slots := 0, locals := 23 } : Room) s m ([.ref (A 0), .int (nI x), .int z, .long v] : List Value).toArray below meth c H locs 0 0 (MQ below (va_Qv (fun w => (∃ F O1, w[b + 3]? = some (A 3, .inl (cJ, 100, .inr (.inl F))) ∧ w[b + 4]? = some (A 4, .inl (cJ, 100, .inr (.inl O1))) ∧ lm_ag N F (lm_tnM X z (2 * x - 2) v)) ∧ gF (b + 3) (b + 5) ws w) (gw_B D classes (gT cJ cI cZ cS) ws sz) (va_A ws sz)) ([.ref (A 0), .int (nI x), .int z, .long v] : List Value).toArray s 0 0 (va_A ws sz)) (F0 m 50 ls []) := by
                intro dd
                induction dd with
                | zero =>
                  intro k e_k w H locs ls m0 mD mO hfr hP hD hS hl
                  have e0_k : 10 = k := by omega
                  subst e0_k
                  refine lv_iload hx hb d_M_turn_50 (lv_at hl 0 rfl) ?_
                  refine lv_bipush (v := nI 10) hx hb d_M_turn_52 (by decide) ?_
                  refine lv_icmp_ge (tgt := 213) hx hb d_M_turn_54 (by decide) (fun c4 => ?_) (fun c4 => ?_)
                  · have c4 := (nI_leI (a := 10) (b := 10) (by omega) (by omega)).mp c4
                    refine lv_iinc (v := nI (i + 1)) (lv' := [(6, .int (nI (i + 1))), (7, .int (nI 10)), (5, .int (nI ((2 * x) - 2))), (0, .ref (A 0)), (1, .int (nI x)), (2, .int z), (3, .long v)]) hx hb d_M_turn_213 hl (k := 1) rfl (gx_inc _) (by decide) rfl (fun ls hl => ?_)
                    refine lv_goto (tgt := 40) hx hb d_M_turn_216 (by decide) ?_
                    exact ih_40 (i + 1) (by omega) _ _ _ _ m0 mD mO hfr hP hD hS (lv_sub hl [0, 2, 3, 4, 5, 6] rfl)
                  · have c4 : ¬ (10 ≤ 10) := fun z => c4 ((nI_leI (a := 10) (b := 10) (by omega) (by omega)).mpr z)
                    exfalso; omega
                | succ dd ih_50 =>
                  intro k e_k w H locs ls m0 mD mO hfr hP hD hS hl
                  have hti := lm_tn_lt (z := z) (p := 2 * x - 2) (i := i) (x := 5) (by omega)
                  have htk := lm_tn_lt (z := z) (p := 2 * x - 2) (i := k) (x := 5) (by omega)
                  refine lv_iload hx hb d_M_turn_50 (lv_at hl 0 rfl) ?_
                  refine lv_bipush (v := nI 10) hx hb d_M_turn_52 (by decide) ?_
                  refine lv_icmp_ge (tgt := 213) hx hb d_M_turn_54 (by decide) (fun c5 => ?_) (fun c5 => ?_)
                  · have c5 := (nI_leI (a := 10) (b := k) (by omega) (by omega)).mp c5
                    exfalso; omega
                  · have c5 : ¬ (10 ≤ k) := fun z => c5 ((nI_leI (a := 10) (b := k) (by omega) (by omega)).mpr z)
                    have mg_87 : ∀ (H : Heap) (locs : List Loc), va_P D classes w H → va_D (va_A ws sz) w → va_S (va_A ws sz) s.heap H locs → W p l e ({ frames := 2, cells := 0, slots := 0, locals := 23 } : Room) s m ([.ref (A 0), .int (nI x), .int z, .long v] : List Value).toArray below meth c H locs 0 0 (MQ below (va_Qv (fun w => (∃ F O1, w[b + 3]? = some (A 3, .inl (cJ, 100, .inr (.inl F))) ∧ w[b + 4]? = some (A 4, .inl (cJ, 100, .inr (.inl O1))) ∧ lm_ag N F (lm_tnM X z (2 * x - 2) v)) ∧ gF (b + 3) (b + 5) ws w) (gw_B D classes (gT cJ cI cZ cS) ws sz) (va_A ws sz)) ([.ref (A 0), .int (nI x), .int z, .long v] : List Value).toArray s 0 0 (va_A ws sz)) (F0 m 87 ls [.int (nI (lm_tn z (2 * x - 2) i))]) := by
                      intro H locs hP hD hS
                      refine lv_istore (lv' := [(8, .int (nI (lm_tn z (2 * x - 2) i))), (7, .int (nI k)), (6, .int (nI i)), (5, .int (nI ((2 * x) - 2))), (0, .ref (A 0)), (1, .int (nI x)), (2, .int z), (3, .long v)]) hx hb d_M_turn_87 hl (by decide) rfl (fun ls hl => ?_)
                      have mg_119 : ∀ (H : Heap) (locs : List Loc), va_P D classes w H → va_D (va_A ws sz) w → va_S (va_A ws sz) s.heap H locs → W p l e ({ frames := 2, cells := 0, slots := 0, locals := 23 } : Room) s m ([.ref (A 0), .int (nI x), .int z, .long v] : List Value).toArray below meth c H locs 0 0 (MQ below (va_Qv (fun w => (∃ F O1, w[b + 3]? = some (A 3, .inl (cJ, 100, .inr (.inl F))) ∧ w[b + 4]? = some (A 4, .inl (cJ, 100, .inr (.inl O1))) ∧ lm_ag N F (lm_tnM X z (2 * x - 2) v)) ∧ gF (b + 3) (b + 5) ws w) (gw_B D classes (gT cJ cI cZ cS) ws sz) (va_A ws sz)) ([.ref (A 0), .int (nI x), .int z, .long v] : List Value).toArray s 0 0 (va_A ws sz)) (F0 m 119 ls [.int (nI (lm_tn z (2 * x - 2) k))]) := by
                        intro H locs hP hD hS
                        refine lv_istore (lv' := [(9, .int (nI (lm_tn z (2 * x - 2) k))), (8, .int (nI (lm_tn z (2 * x - 2) i))), (7, .int (nI k)), (6, .int (nI i)), (5, .int (nI ((2 * x) - 2))), (0, .ref (A 0)), (1, .int (nI x)), (2, .int z), (3, .long v)]) hx hb d_M_turn_119 hl (by decide) rfl (fun ls hl => ?_)
                        have mg_147 : ∀ (H : Heap) (locs : List Loc), va_P D classes w H → va_D (va_A ws sz) w → va_S (va_A ws sz) s.heap H locs → W p l e ({ frames := 2, cells := 0, slots := 0, locals := 23 } : Room) s m ([.ref (A 0), .int (nI x), .int z, .long v] : List Value).toArray below meth c H locs 0 0 (MQ below (va_Qv (fun w => (∃ F O1, w[b + 3]? = some (A 3, .inl (cJ, 100, .inr (.inl F))) ∧ w[b + 4]? = some (A 4, .inl (cJ, 100, .inr (.inl O1))) ∧ lm_ag N F (lm_tnM X z (2 * x - 2) v)) ∧ gF (b + 3) (b + 5) ws w) (gw_B D classes (gT cJ cI cZ cS) ws sz) (va_A ws sz)) ([.ref (A 0), .int (nI x), .int z, .long v] : List Value).toArray s 0 0 (va_A ws sz)) (F0 m 147 ls [.long (lm_by (2 * x - 2) i v)]) := by
                          intro H locs hP hD hS
                          have mg_173 : ∀ (H : Heap) (locs : List Loc), va_P D classes w H → va_D (va_A ws sz) w → va_S (va_A ws sz) s.heap H locs → W p l e ({ frames := 2, cells := 0, slots := 0, locals := 23 } : Room) s m ([.ref (A 0), .int (nI x), .int z, .long v] : List Value).toArray below meth c H locs 0 0 (MQ below (va_Qv (fun w => (∃ F O1, w[b + 3]? = some (A 3, .inl (cJ, 100, .inr (.inl F))) ∧ w[b + 4]? = some (A 4, .inl (cJ, 100, .inr (.inl O1))) ∧ lm_ag N F (lm_tnM X z (2 * x - 2) v)) ∧ gF (b + 3) (b + 5) ws w) (gw_B D classes (gT cJ cI cZ cS) ws sz) (va_A ws sz)) ([.ref (A 0), .int (nI x), .int z, .long v] : List Value).toArray s 0 0 (va_A ws sz)) (F0 m 173 ls [.long (lm_by (2 * x - 2) k v), .long (lm_by (2 * x - 2) i v)]) := by
                            intro H locs hP hD hS
                            refine lv_ladd hx hb d_M_turn_173 ?_
                            refine lv_lstore (lv' := [(10, .long ((lm_by (2 * x - 2) i v) + (lm_by (2 * x - 2) k v))), (9, .int (nI (lm_tn z (2 * x - 2) k))), (8, .int (nI (lm_tn z (2 * x - 2) i))), (7, .int (nI k)), (6, .int (nI i)), (5, .int (nI ((2 * x) - 2))), (0, .ref (A 0)), (1, .int (nI x)), (2, .int z), (3, .long v)]) hx hb d_M_turn_174 hl (by decide) rfl (fun ls hl => ?_)
                            refine lv_aload_n hx hb d_M_turn_176 rfl (lv_at hl 6 rfl) ?_
                            refine gf_M_17 hF hT hK hP m0 rfl d_M_turn_177 ?_
                            refine lv_bipush (v := nI 10) hx hb d_M_turn_180 (by decide) ?_
                            refine lv_iload hx hb d_M_turn_182 (lv_at hl 4 rfl) ?_
                            refine lv_imul hx hb d_M_turn_184 ?_
                            refine gx_i (y := nI (10 * i)) (pk_mul _ _) ?_
                            refine lv_iload hx hb d_M_turn_185 (lv_at hl 3 rfl) ?_
                            refine lv_iadd hx hb d_M_turn_187 ?_
                            refine gx_i (y := nI ((10 * i) + k)) (nI_add _ _) ?_
                            refine lv_aload_n hx hb d_M_turn_188 rfl (lv_at hl 6 rfl) ?_
                            refine gf_M_20 hF hT hK hP m0 rfl d_M_turn_189 ?_
                            refine lv_bipush (v := nI 10) hx hb d_M_turn_192 (by decide) ?_
                            refine lv_iload hx hb d_M_turn_194 (lv_at hl 2 rfl) ?_
                            refine lv_imul hx hb d_M_turn_196 ?_
                            refine gx_i (y := nI (10 * (lm_tn z (2 * x - 2) i))) (pk_mul _ _) ?_
                            refine lv_iload hx hb d_M_turn_197 (lv_at hl 1 rfl) ?_
                            refine lv_iadd hx hb d_M_turn_199 ?_
                            refine gx_i (y := nI ((10 * (lm_tn z (2 * x - 2) i)) + (lm_tn z (2 * x - 2) k))) (nI_add _ _) ?_
                            refine g_lald (t0 := 0) (k := (10 * (lm_tn z (2 * x - 2) i)) + (lm_tn z (2 * x - 2) k)) hx hb hK hP mO rfl (by omega) (by omega) d_M_turn_200 ?_
                            refine lv_lload hx hb d_M_turn_201 (lv_at hl 0 rfl) ?_
                            refine gw_cl0 (gc_M_57 (As := [.long ((lr_it (fun k O => vp_updL O k (D0 k)) 100 O) ((10 * (lm_tn z (2 * x - 2) i)) + (lm_tn z (2 * x - 2) k))), .long ((lm_by (2 * x - 2) i v) + (lm_by (2 * x - 2) k v))]) (rest := [.int (nI ((10 * i) + k)), .ref (A 3)]) hF hT (c_M_sum) ⟨(Nat.le_of_ble_eq_true rfl), (Nat.le_of_ble_eq_true rfl)⟩ rfl rfl hK hN hP hD rfl hl.1 rfl (Nat.le_of_ble_eq_true rfl) d_M_turn_203 ⟨(Nat.le_of_ble_eq_true rfl), (Nat.le_of_ble_eq_true rfl)⟩) hD hS hA (fun r6 H locs e_r6 hP hD hS => ?_)
                            subst e_r6
                            refine g_last (t0 := 0) (k := (10 * i) + k) hx hb hK hP hD hS mD rfl (by omega) (by omega) d_M_turn_206 (fun w H locs mD hf hP hD hS => ?_)
                            have m0 := hf.at m0 (by omega)
                            have mO := hf.at mO (by omega)
                            have hfr := hfr.in hf (by omega) (by omega)
                            refine lv_iinc (v := nI (k + 1)) (lv' := [(7, .int (nI (k + 1))), (10, .long ((lm_by (2 * x - 2) i v) + (lm_by (2 * x - 2) k v))), (9, .int (nI (lm_tn z (2 * x - 2) k))), (8, .int (nI (lm_tn z (2 * x - 2) i))), (6, .int (nI i)), (5, .int (nI ((2 * x) - 2))), (0, .ref (A 0)), (1, .int (nI x)), (2, .int z), (3, .long v)]) hx hb d_M_turn_207 hl (k := 3) rfl (gx_inc _) (by decide) rfl (fun ls hl => ?_)
                            refine lv_goto (tgt := 50) hx hb d_M_turn_210 (by decide) ?_
                            exact ih_50 (k + 1) (by omega) _ _ _ _ m0 mD mO hfr hP hD hS (lv_sub hl [0, 4, 5, 6, 7, 8, 9] rfl)
                          refine lv_iload hx hb d_M_turn_147 (lv_at hl 2 rfl) ?_
                          refine lv_iload hx hb d_M_turn_149 (lv_at hl 4 rfl) ?_
                          refine lv_icmp_ne (tgt := 158) hx hb d_M_turn_151 (by decide) (fun c7 => ?_) (fun c7 => ?_)
                          · have c7 : ¬ (k = (2 * x) - 2) := fun z => c7 ((nI_eq (a := k) (b := ((2 * x) - 2)) (by omega) (by omega)).mpr z)
                            refine lv_iload hx hb d_M_turn_158 (lv_at hl 2 rfl) ?_
                            refine lv_iload hx hb d_M_turn_160 (lv_at hl 4 rfl) ?_
                            refine lv_iconst (v := nI 1) hx hb d_M_turn_162 (by decide) ?_
                            refine lv_iadd hx hb d_M_turn_163 ?_
                            refine gx_i (y := nI (((2 * x) - 2) + 1)) (nI_add _ _) ?_
                            refine lv_icmp_ne (tgt := 172) hx hb d_M_turn_164 (by decide) (fun c8 => ?_) (fun c8 => ?_)
                            · have c8 : ¬ (k = ((2 * x) - 2) + 1) := fun z => c8 ((nI_eq (a := k) (b := (((2 * x) - 2) + 1)) (by omega) (by omega)).mpr z)
                              refine lv_lconst (v := 0) hx hb d_M_turn_172 rfl ?_
                              exact gx_l (y := lm_by (2 * x - 2) k v) (by unfold lm_by; simp [c7, c8]) (mg_173 _ _ hP hD hS)
                            · have c8 := (nI_eq (a := k) (b := (((2 * x) - 2) + 1)) (by omega) (by omega)).mp c8
                              refine lv_lload_n hx hb d_M_turn_167 rfl (lv_at hl 8 rfl) ?_
                              refine lv_lneg hx hb d_M_turn_168 ?_
                              refine lv_goto (tgt := 173) hx hb d_M_turn_169 (by decide) ?_
                              exact gx_l (y := lm_by (2 * x - 2) k v) (by unfold lm_by; simp [c7, c8]) (mg_173 _ _ hP hD hS)
                          · have c7 := (nI_eq (a := k) (b := ((2 * x) - 2)) (by omega) (by omega)).mp c7
                            refine lv_lload_n hx hb d_M_turn_154 rfl (lv_at hl 8 rfl) ?_
                            refine lv_goto (tgt := 173) hx hb d_M_turn_155 (by decide) ?_
                            exact gx_l (y := lm_by (2 * x - 2) k v) (by unfold lm_by; simp [c7]) (mg_173 _ _ hP hD hS)
                        refine lv_iload hx hb d_M_turn_121 (lv_at hl 3 rfl) ?_
                        refine lv_iload hx hb d_M_turn_123 (lv_at hl 4 rfl) ?_
                        refine lv_icmp_ne (tgt := 132) hx hb d_M_turn_125 (by decide) (fun c9 => ?_) (fun c9 => ?_)
                        · have c9 : ¬ (i = (2 * x) - 2) := fun z => c9 ((nI_eq (a := i) (b := ((2 * x) - 2)) (by omega) (by omega)).mpr z)
                          refine lv_iload hx hb d_M_turn_132 (lv_at hl 3 rfl) ?_
                          refine lv_iload hx hb d_M_turn_134 (lv_at hl 4 rfl) ?_
                          refine lv_iconst (v := nI 1) hx hb d_M_turn_136 (by decide) ?_
                          refine lv_iadd hx hb d_M_turn_137 ?_
                          refine gx_i (y := nI (((2 * x) - 2) + 1)) (nI_add _ _) ?_
                          refine lv_icmp_ne (tgt := 146) hx hb d_M_turn_138 (by decide) (fun c10 => ?_) (fun c10 => ?_)
                          · have c10 : ¬ (i = ((2 * x) - 2) + 1) := fun z => c10 ((nI_eq (a := i) (b := (((2 * x) - 2) + 1)) (by omega) (by omega)).mpr z)
                            refine lv_lconst (v := 0) hx hb d_M_turn_146 rfl ?_
                            exact gx_l (y := lm_by (2 * x - 2) i v) (by unfold lm_by; simp [c9, c10]) (mg_147 _ _ hP hD hS)
                          · have c10 := (nI_eq (a := i) (b := (((2 * x) - 2) + 1)) (by omega) (by omega)).mp c10
                            refine lv_lload_n hx hb d_M_turn_141 rfl (lv_at hl 8 rfl) ?_
                            refine lv_lneg hx hb d_M_turn_142 ?_
                            refine lv_goto (tgt := 147) hx hb d_M_turn_143 (by decide) ?_
                            exact gx_l (y := lm_by (2 * x - 2) i v) (by unfold lm_by; simp [c9, c10]) (mg_147 _ _ hP hD hS)
                        · have c9 := (nI_eq (a := i) (b := ((2 * x) - 2)) (by omega) (by omega)).mp c9
                          refine lv_lload_n hx hb d_M_turn_128 rfl (lv_at hl 8 rfl) ?_
                          refine lv_goto (tgt := 147) hx hb d_M_turn_129 (by decide) ?_
                          exact gx_l (y := lm_by (2 * x - 2) i v) (by unfold lm_by; simp [c9]) (mg_147 _ _ hP hD hS)
                      refine lv_iload_n hx hb d_M_turn_89 rfl (lv_at hl 6 rfl) ?_
                      refine lv_if_eq (tgt := 117) hx hb d_M_turn_90 (by decide) (fun c11 => ?_) (fun c11 => ?_)
                      · refine lv_iload hx hb d_M_turn_117 (lv_at hl 1 rfl) ?_
                        exact gx_i (y := nI (lm_tn z (2 * x - 2) k)) (by unfold lm_tn; simp [c1, c3, c5, c11]) (mg_119 _ _ hP hD hS)
                      · refine lv_iload hx hb d_M_turn_93 (lv_at hl 1 rfl) ?_
                        refine lv_iload hx hb d_M_turn_95 (lv_at hl 3 rfl) ?_
                        refine lv_icmp_eq (tgt := 109) hx hb d_M_turn_97 (by decide) (fun c12 => ?_) (fun c12 => ?_)
                        · have c12 := (nI_eq (a := k) (b := ((2 * x) - 2)) (by omega) (by omega)).mp c12
                          refine lv_iload hx hb d_M_turn_109 (lv_at hl 1 rfl) ?_
                          refine gw_ci0 (gc_M_53 (As := [.int (nI k)]) (rest := []) hF hT (c_M_opposite (by omega)) ⟨(Nat.le_of_ble_eq_true rfl), (Nat.le_of_ble_eq_true rfl)⟩ rfl rfl hK hN hP hD rfl hl.1 rfl (Nat.le_of_ble_eq_true rfl) d_M_turn_111 ⟨(Nat.le_of_ble_eq_true rfl), (Nat.le_of_ble_eq_true rfl)⟩) hD hS hA (fun r13 H locs e_r13 hP hD hS => ?_)
                          subst e_r13
                          have hop := lr_op_ev (x := 5) (i := k) (by omega)
                          refine lv_goto (tgt := 119) hx hb d_M_turn_114 (by decide) ?_
                          exact gx_i (y := nI (lm_tn z (2 * x - 2) k)) (by unfold lm_tn; simp [c3, c5, c11, c12]) (mg_119 _ _ hP hD hS)
                        · have c12 : ¬ (k = (2 * x) - 2) := fun z => c12 ((nI_eq (a := k) (b := ((2 * x) - 2)) (by omega) (by omega)).mpr z)
                          refine lv_iload hx hb d_M_turn_100 (lv_at hl 1 rfl) ?_
                          refine lv_iload hx hb d_M_turn_102 (lv_at hl 3 rfl) ?_
                          refine lv_iconst (v := nI 1) hx hb d_M_turn_104 (by decide) ?_
                          refine lv_iadd hx hb d_M_turn_105 ?_
                          refine gx_i (y := nI (((2 * x) - 2) + 1)) (nI_add _ _) ?_
                          refine lv_icmp_ne (tgt := 117) hx hb d_M_turn_106 (by decide) (fun c14 => ?_) (fun c14 => ?_)
                          · have c14 : ¬ (k = ((2 * x) - 2) + 1) := fun z => c14 ((nI_eq (a := k) (b := (((2 * x) - 2) + 1)) (by omega) (by omega)).mpr z)
                            refine lv_iload hx hb d_M_turn_117 (lv_at hl 1 rfl) ?_
                            exact gx_i (y := nI (lm_tn z (2 * x - 2) k)) (by unfold lm_tn; simp [c5, c11, c12, c14]) (mg_119 _ _ hP hD hS)
                          · have c14 := (nI_eq (a := k) (b := (((2 * x) - 2) + 1)) (by omega) (by omega)).mp c14
                            refine lv_iload hx hb d_M_turn_109 (lv_at hl 1 rfl) ?_
                            refine gw_ci0 (gc_M_53 (As := [.int (nI k)]) (rest := []) hF hT (c_M_opposite (by omega)) ⟨(Nat.le_of_ble_eq_true rfl), (Nat.le_of_ble_eq_true rfl)⟩ rfl rfl hK hN hP hD rfl hl.1 rfl (Nat.le_of_ble_eq_true rfl) d_M_turn_111 ⟨(Nat.le_of_ble_eq_true rfl), (Nat.le_of_ble_eq_true rfl)⟩) hD hS hA (fun r15 H locs e_r15 hP hD hS => ?_)
                            subst e_r15
                            have hop := lr_op_ev (x := 5) (i := k) (by omega)
                            refine lv_goto (tgt := 119) hx hb d_M_turn_114 (by decide) ?_
                            exact gx_i (y := nI (lm_tn z (2 * x - 2) k)) (by unfold lm_tn; simp [c5, c11, c12, c14]) (mg_119 _ _ hP hD hS)
                    refine lv_iload_n hx hb d_M_turn_57 rfl (lv_at hl 5 rfl) ?_
                    refine lv_if_eq (tgt := 85) hx hb d_M_turn_58 (by decide) (fun c16 => ?_) (fun c16 => ?_)
                    · refine lv_iload hx hb d_M_turn_85 (lv_at hl 1 rfl) ?_
                      exact gx_i (y := nI (lm_tn z (2 * x - 2) i)) (by unfold lm_tn; simp [c1, c3, c5, c16]) (mg_87 _ _ hP hD hS)
                    · refine lv_iload hx hb d_M_turn_61 (lv_at hl 1 rfl) ?_
                      refine lv_iload hx hb d_M_turn_63 (lv_at hl 2 rfl) ?_
                      refine lv_icmp_eq (tgt := 77) hx hb d_M_turn_65 (by decide) (fun c17 => ?_) (fun c17 => ?_)
                      · have c17 := (nI_eq (a := i) (b := ((2 * x) - 2)) (by omega) (by omega)).mp c17
                        refine lv_iload hx hb d_M_turn_77 (lv_at hl 1 rfl) ?_
                        refine gw_ci0 (gc_M_53 (As := [.int (nI i)]) (rest := []) hF hT (c_M_opposite (by omega)) ⟨(Nat.le_of_ble_eq_true rfl), (Nat.le_of_ble_eq_true rfl)⟩ rfl rfl hK hN hP hD rfl hl.1 rfl (Nat.le_of_ble_eq_true rfl) d_M_turn_79 ⟨(Nat.le_of_ble_eq_true rfl), (Nat.le_of_ble_eq_true rfl)⟩) hD hS hA (fun r18 H locs e_r18 hP hD hS => ?_)
                        subst e_r18
                        have hop := lr_op_ev (x := 5) (i := i) (by omega)
                        refine lv_goto (tgt := 87) hx hb d_M_turn_82 (by decide) ?_
                        exact gx_i (y := nI (lm_tn z (2 * x - 2) i)) (by unfold lm_tn; simp [c3, c5, c16, c17]) (mg_87 _ _ hP hD hS)
                      · have c17 : ¬ (i = (2 * x) - 2) := fun z => c17 ((nI_eq (a := i) (b := ((2 * x) - 2)) (by omega) (by omega)).mpr z)
                        refine lv_iload hx hb d_M_turn_68 (lv_at hl 1 rfl) ?_
                        refine lv_iload hx hb d_M_turn_70 (lv_at hl 2 rfl) ?_
                        refine lv_iconst (v := nI 1) hx hb d_M_turn_72 (by decide) ?_
                        refine lv_iadd hx hb d_M_turn_73 ?_
                        refine gx_i (y := nI (((2 * x) - 2) + 1)) (nI_add _ _) ?_
                        refine lv_icmp_ne (tgt := 85) hx hb d_M_turn_74 (by decide) (fun c19 => ?_) (fun c19 => ?_)
                        · have c19 : ¬ (i = ((2 * x) - 2) + 1) := fun z => c19 ((nI_eq (a := i) (b := (((2 * x) - 2) + 1)) (by omega) (by omega)).mpr z)
                          refine lv_iload hx hb d_M_turn_85 (lv_at hl 1 rfl) ?_
                          exact gx_i (y := nI (lm_tn z (2 * x - 2) i)) (by unfold lm_tn; simp [c5, c16, c17, c19]) (mg_87 _ _ hP hD hS)
                        · have c19 := (nI_eq (a := i) (b := (((2 * x) - 2) + 1)) (by omega) (by omega)).mp c19
                          refine lv_iload hx hb d_M_turn_77 (lv_at hl 1 rfl) ?_
                          refine gw_ci0 (gc_M_53 (As := [.int (nI i)]) (rest := []) hF hT (c_M_opposite (by omega)) ⟨(Nat.le_of_ble_eq_true rfl), (Nat.le_of_ble_eq_true rfl)⟩ rfl rfl hK hN hP hD rfl hl.1 rfl (Nat.le_of_ble_eq_true rfl) d_M_turn_79 ⟨(Nat.le_of_ble_eq_true rfl), (Nat.le_of_ble_eq_true rfl)⟩) hD hS hA (fun r20 H locs e_r20 hP hD hS => ?_)
                          subst e_r20
                          have hop := lr_op_ev (x := 5) (i := i) (by omega)
                          refine lv_goto (tgt := 87) hx hb d_M_turn_82 (by decide) ?_
                          exact gx_i (y := nI (lm_tn z (2 * x - 2) i)) (by unfold lm_tn; simp [c5, c16, c17, c19]) (mg_87 _ _ hP hD hS)
              exact lp_50 10 0 (by omega) _ _ _ _ m0 mD mO hfr hP hD hS (lv_sub hl [0, 1, 2, 3, 4, 5, 6] rfl)
        exact lp_40 10 0 (by omega) _ _ _ _ m0 mD mO hfr hP hD hS (lv_sub hl [0, 1, 2, 3, 4, 5] rfl)
      · have c1 : ¬ (100 ≤ 100) := fun z => c1 ((nI_leI (a := 100) (b := 100) (by omega) (by omega)).mpr z)
        exfalso; omega
    | succ dd ih_10 =>
      intro k e_k w H locs ls m0 mD mO hfr hP hD hS hl
      refine lv_iload hx hb d_M_turn_10 (lv_at hl 0 rfl) ?_
      refine lv_bipush (v := nI 100) hx hb d_M_turn_12 (by decide) ?_
      refine lv_icmp_ge (tgt := 37) hx hb d_M_turn_14 (by decide) (fun c21 => ?_) (fun c21 => ?_)
      · have c21 := (nI_leI (a := 100) (b := k) (by omega) (by omega)).mp c21
        exfalso; omega
      · have c21 : ¬ (100 ≤ k) := fun z => c21 ((nI_leI (a := 100) (b := k) (by omega) (by omega)).mpr z)
        refine lv_aload_n hx hb d_M_turn_17 rfl (lv_at hl 2 rfl) ?_
        refine gf_M_20 hF hT hK hP m0 rfl d_M_turn_18 ?_
        refine lv_iload hx hb d_M_turn_21 (lv_at hl 0 rfl) ?_
        refine lv_aload_n hx hb d_M_turn_23 rfl (lv_at hl 2 rfl) ?_
        refine gf_M_17 hF hT hK hP m0 rfl d_M_turn_24 ?_
        refine lv_iload hx hb d_M_turn_27 (lv_at hl 0 rfl) ?_
        refine g_lald (t0 := 0) (k := k) hx hb hK hP mD rfl (by omega) (by omega) d_M_turn_29 ?_
        refine g_last (t0 := 0) (k := k) hx hb hK hP hD hS mO rfl (by omega) (by omega) d_M_turn_30 (fun w H locs mO hf hP hD hS => ?_)
        have m0 := hf.at m0 (by omega)
        have mD := hf.at mD (by omega)
        have hfr := hfr.in hf (by omega) (by omega)
        refine lv_iinc (v := nI (k + 1)) (lv' := [(6, .int (nI (k + 1))), (5, .int (nI ((2 * x) - 2))), (0, .ref (A 0)), (1, .int (nI x)), (2, .int z), (3, .long v)]) hx hb d_M_turn_31 hl (k := 0) rfl (gx_inc _) (by decide) rfl (fun ls hl => ?_)
        refine lv_goto (tgt := 10) hx hb d_M_turn_34 (by decide) ?_
        exact ih_10 (k + 1) (by omega) _ _ _ _ m0 mD mO hfr hP hD hS (lv_sub hl [0, 1, 2, 3, 4, 5] rfl)
  exact lp_10 100 0 (by omega) _ _ _ _ m0 mD mO hfr hP hD hS (lv_sub hl [0, 1, 2, 3, 4, 5] rfl)

set_option maxHeartbeats 4000000 in
set_option maxRecDepth 100000 in
theorem c_M_areShapes {l : Launch} {D : va_G} {cJ cI cZ cS : ClassId} {ws : va_W} {sz : Nat} {b N nm : Nat} {A : Nat → Nat} {th : Int32}  (m0 : ws[b]? = some (A 0, .inr (3, [.int th, .int (nI N), .ref (A 1), .ref (A 2), .ref (A 3), .ref (A 4), .ref (A 5), .ref (A 6), .int (nI nm), .ref (A 7), .ref (A 8), .ref (A 9), .ref (A 10)]))) (hN1 : 1 ≤ N) (hN5 : N ≤ 5) {x y z : Int32} : Met l y_M_areShapes w_M_areShapes ({ frames := 2, cells := 0, slots := 0, locals := 21 } : Room) (gw_Pc D classes (gT cJ cI cZ cS) [.ref (A 0), .int x, .int y, .int z] ws sz) (va_Qi (fun r w => (∃ th', w[b]? = some (mObj A N th' nm) ∧ lm_asR (okS x ∧ okS y ∧ okS z) th' r) ∧ gF b (b + 1) ws w) (gw_B D classes (gT cJ cI cZ cS) ws sz) (va_A ws sz)) 0 0 (va_A ws sz) := by
  refine gw_head (by decide) (Nat.le_of_ble_eq_true rfl) (fun p e s m below meth c hsz hx hb hr hlocks hml hown hnm hts hK hN hP hD hS hA ls hl => ?_)
  have hown : s.vm.findClass R_M = some m.cls := hown
  have hT : ∀ w ∈ wG, w ∈ Cond.code y_M_areShapes b_M_areShapes 4 (some .boolean) :: wG := gd_t _
  have hF : CallFix p m c b_M_areShapes 4 s ([.ref (A 0), .int x, .int y, .int z] : List Value).toArray (Cond.code y_M_areShapes b_M_areShapes 4 (some .boolean) :: wG) R_M := ⟨hx, hb, hml, hown, hts⟩
  have hl : lv_has ls 4 [(0, .ref (A 0)), (1, .int x), (2, .int y), (3, .int z)] := hl
  have hfr : gF b (b + 1) ws ws := gF.rf
  refine lv_aload_n hx hb d_M_areShapes_0 rfl (lv_at hl 0 rfl) ?_
  refine lv_aload_n hx hb d_M_areShapes_1 rfl (lv_at hl 0 rfl) ?_
  refine lv_iload_n hx hb d_M_areShapes_2 rfl (lv_at hl 1 rfl) ?_
  refine gw_ci0 (gc_M_83 (As := [.int x]) (rest := [.ref (A 0)]) hF hT (c_M_isShape m0 hN1 hN5) ⟨(Nat.le_of_ble_eq_true rfl), (Nat.le_of_ble_eq_true rfl)⟩ rfl rfl hK hN hP hD m0 rfl hl.1 rfl (Nat.le_of_ble_eq_true rfl) d_M_areShapes_3 ⟨(Nat.le_of_ble_eq_true rfl), (Nat.le_of_ble_eq_true rfl)⟩) hD hS hA (fun r1 H locs e_r1 hP hD hS => ?_)
  refine lv_if_eq (tgt := 29) hx hb d_M_areShapes_6 (by decide) (fun c2 => ?_) (fun c2 => ?_)
  · refine lv_iconst (v := nI 1) hx hb d_M_areShapes_29 (by decide) ?_
    refine gp_M_48 hF hT hK hP hD hS (fs1 := [.int (nI 1), .int (nI N), .ref (A 1), .ref (A 2), .ref (A 3), .ref (A 4), .ref (A 5), .ref (A 6), .int (nI nm), .ref (A 7), .ref (A 8), .ref (A 9), .ref (A 10)]) m0 rfl rfl (Nat.le_of_ble_eq_true rfl) rfl d_M_areShapes_30 (fun w H locs m0 hf hP hD hS => ?_)
    have hfr := hfr.in hf (by omega) (by omega)
    refine lv_aload_n hx hb d_M_areShapes_33 rfl (lv_at hl 0 rfl) ?_
    refine gf_M_48 hF hT hK hP m0 rfl d_M_areShapes_34 ?_
    refine lv_if_ne (tgt := 44) hx hb d_M_areShapes_37 (by decide) (fun c3 => ?_) (fun c3 => ?_)
    · have c3 : ¬ (1 = 0) := fun z => c3 ((nI_eq (a := 1) (b := 0) (by omega) (by omega)).mpr z)
      refine lv_iconst (v := nI 0) hx hb d_M_areShapes_44 (by decide) ?_
      exact gw_zret hx hb hr hlocks hK hP hD hS (Nat.le_of_ble_eq_true rfl) (Nat.le_of_ble_eq_true rfl) rfl d_M_areShapes_45 ⟨⟨_, m0, Or.inr ⟨rfl, fun q => gb_t e_r1 c2 q.1, rfl⟩⟩, hfr⟩
    · have c3 := (nI_eq (a := 1) (b := 0) (by omega) (by omega)).mp c3
      exfalso; omega
  · refine lv_aload_n hx hb d_M_areShapes_9 rfl (lv_at hl 0 rfl) ?_
    refine lv_iload_n hx hb d_M_areShapes_10 rfl (lv_at hl 2 rfl) ?_
    refine gw_ci0 (gc_M_83 (As := [.int y]) (rest := [.ref (A 0)]) hF hT (c_M_isShape m0 hN1 hN5) ⟨(Nat.le_of_ble_eq_true rfl), (Nat.le_of_ble_eq_true rfl)⟩ rfl rfl hK hN hP hD m0 rfl hl.1 rfl (Nat.le_of_ble_eq_true rfl) d_M_areShapes_11 ⟨(Nat.le_of_ble_eq_true rfl), (Nat.le_of_ble_eq_true rfl)⟩) hD hS hA (fun r4 H locs e_r4 hP hD hS => ?_)
    refine lv_if_eq (tgt := 29) hx hb d_M_areShapes_14 (by decide) (fun c5 => ?_) (fun c5 => ?_)
    · refine lv_iconst (v := nI 1) hx hb d_M_areShapes_29 (by decide) ?_
      refine gp_M_48 hF hT hK hP hD hS (fs1 := [.int (nI 1), .int (nI N), .ref (A 1), .ref (A 2), .ref (A 3), .ref (A 4), .ref (A 5), .ref (A 6), .int (nI nm), .ref (A 7), .ref (A 8), .ref (A 9), .ref (A 10)]) m0 rfl rfl (Nat.le_of_ble_eq_true rfl) rfl d_M_areShapes_30 (fun w H locs m0 hf hP hD hS => ?_)
      have hfr := hfr.in hf (by omega) (by omega)
      refine lv_aload_n hx hb d_M_areShapes_33 rfl (lv_at hl 0 rfl) ?_
      refine gf_M_48 hF hT hK hP m0 rfl d_M_areShapes_34 ?_
      refine lv_if_ne (tgt := 44) hx hb d_M_areShapes_37 (by decide) (fun c6 => ?_) (fun c6 => ?_)
      · have c6 : ¬ (1 = 0) := fun z => c6 ((nI_eq (a := 1) (b := 0) (by omega) (by omega)).mpr z)
        refine lv_iconst (v := nI 0) hx hb d_M_areShapes_44 (by decide) ?_
        exact gw_zret hx hb hr hlocks hK hP hD hS (Nat.le_of_ble_eq_true rfl) (Nat.le_of_ble_eq_true rfl) rfl d_M_areShapes_45 ⟨⟨_, m0, Or.inr ⟨rfl, fun q => gb_t e_r4 c5 q.2.1, rfl⟩⟩, hfr⟩
      · have c6 := (nI_eq (a := 1) (b := 0) (by omega) (by omega)).mp c6
        exfalso; omega
    · refine lv_aload_n hx hb d_M_areShapes_17 rfl (lv_at hl 0 rfl) ?_
      refine lv_iload_n hx hb d_M_areShapes_18 rfl (lv_at hl 3 rfl) ?_
      refine gw_ci0 (gc_M_83 (As := [.int z]) (rest := [.ref (A 0)]) hF hT (c_M_isShape m0 hN1 hN5) ⟨(Nat.le_of_ble_eq_true rfl), (Nat.le_of_ble_eq_true rfl)⟩ rfl rfl hK hN hP hD m0 rfl hl.1 rfl (Nat.le_of_ble_eq_true rfl) d_M_areShapes_19 ⟨(Nat.le_of_ble_eq_true rfl), (Nat.le_of_ble_eq_true rfl)⟩) hD hS hA (fun r7 H locs e_r7 hP hD hS => ?_)
      refine lv_if_eq (tgt := 29) hx hb d_M_areShapes_22 (by decide) (fun c8 => ?_) (fun c8 => ?_)
      · refine lv_iconst (v := nI 1) hx hb d_M_areShapes_29 (by decide) ?_
        refine gp_M_48 hF hT hK hP hD hS (fs1 := [.int (nI 1), .int (nI N), .ref (A 1), .ref (A 2), .ref (A 3), .ref (A 4), .ref (A 5), .ref (A 6), .int (nI nm), .ref (A 7), .ref (A 8), .ref (A 9), .ref (A 10)]) m0 rfl rfl (Nat.le_of_ble_eq_true rfl) rfl d_M_areShapes_30 (fun w H locs m0 hf hP hD hS => ?_)
        have hfr := hfr.in hf (by omega) (by omega)
        refine lv_aload_n hx hb d_M_areShapes_33 rfl (lv_at hl 0 rfl) ?_
        refine gf_M_48 hF hT hK hP m0 rfl d_M_areShapes_34 ?_
        refine lv_if_ne (tgt := 44) hx hb d_M_areShapes_37 (by decide) (fun c9 => ?_) (fun c9 => ?_)
        · have c9 : ¬ (1 = 0) := fun z => c9 ((nI_eq (a := 1) (b := 0) (by omega) (by omega)).mpr z)
          refine lv_iconst (v := nI 0) hx hb d_M_areShapes_44 (by decide) ?_
          exact gw_zret hx hb hr hlocks hK hP hD hS (Nat.le_of_ble_eq_true rfl) (Nat.le_of_ble_eq_true rfl) rfl d_M_areShapes_45 ⟨⟨_, m0, Or.inr ⟨rfl, fun q => gb_t e_r7 c8 q.2.2, rfl⟩⟩, hfr⟩
        · have c9 := (nI_eq (a := 1) (b := 0) (by omega) (by omega)).mp c9
          exfalso; omega
      · refine lv_iconst (v := nI 0) hx hb d_M_areShapes_25 (by decide) ?_
        refine lv_goto (tgt := 30) hx hb d_M_areShapes_26 (by decide) ?_
        refine gp_M_48 hF hT hK hP hD hS (fs1 := [.int (nI 0), .int (nI N), .ref (A 1), .ref (A 2), .ref (A 3), .ref (A 4), .ref (A 5), .ref (A 6), .int (nI nm), .ref (A 7), .ref (A 8), .ref (A 9), .ref (A 10)]) m0 rfl rfl (Nat.le_of_ble_eq_true rfl) rfl d_M_areShapes_30 (fun w H locs m0 hf hP hD hS => ?_)
        have hfr := hfr.in hf (by omega) (by omega)
        refine lv_aload_n hx hb d_M_areShapes_33 rfl (lv_at hl 0 rfl) ?_
        refine gf_M_48 hF hT hK hP m0 rfl d_M_areShapes_34 ?_
        refine lv_if_ne (tgt := 44) hx hb d_M_areShapes_37 (by decide) (fun c10 => ?_) (fun c10 => ?_)
        · have c10 : ¬ (0 = 0) := fun z => c10 ((nI_eq (a := 0) (b := 0) (by omega) (by omega)).mpr z)
          exfalso; omega
        · have c10 := (nI_eq (a := 0) (b := 0) (by omega) (by omega)).mp c10
          refine lv_iconst (v := nI 1) hx hb d_M_areShapes_40 (by decide) ?_
          refine lv_goto (tgt := 45) hx hb d_M_areShapes_41 (by decide) ?_
          exact gw_zret hx hb hr hlocks hK hP hD hS (Nat.le_of_ble_eq_true rfl) (Nat.le_of_ble_eq_true rfl) rfl d_M_areShapes_45 ⟨⟨_, m0, Or.inl ⟨rfl, ⟨gb_f e_r1 c2, gb_f e_r4 c5, gb_f e_r7 c8⟩, rfl⟩⟩, hfr⟩

set_option maxHeartbeats 4000000 in
set_option maxRecDepth 100000 in
theorem c_M_listRow {l : Launch} {D : va_G} {cJ cI cZ cS : ClassId} {ws : va_W} {sz : Nat} {b N nm : Nat} {A : Nat → Nat} {th : Int32} {R : Nat → Int64} {Em : Nat → Int32} {D0 : Nat → Int64} {O : Nat → Int64} {Md : Nat → Int64} {Pt : Nat → Int64} {nA : Nat → Int32} {nB : Nat → Int32} {nC : Nat → Int64} {Lf : Nat → Int32} (m0 : ws[b]? = some (A 0, .inr (3, [.int th, .int (nI N), .ref (A 1), .ref (A 2), .ref (A 3), .ref (A 4), .ref (A 5), .ref (A 6), .int (nI nm), .ref (A 7), .ref (A 8), .ref (A 9), .ref (A 10)]))) (mR : ws[b + 1]? = some (A 1, .inl (cJ, 800, .inr (.inl R)))) (mE : ws[b + 2]? = some (A 2, .inl (cZ, 8, .inl Em))) (mD : ws[b + 3]? = some (A 3, .inl (cJ, 100, .inr (.inl D0)))) (mO : ws[b + 4]? = some (A 4, .inl (cJ, 100, .inr (.inl O)))) (mM : ws[b + 5]? = some (A 5, .inl (cJ, 100, .inr (.inl Md)))) (mP : ws[b + 6]? = some (A 6, .inl (cJ, 6, .inr (.inl Pt)))) (mA : ws[b + 7]? = some (A 7, .inl (cI, 60, .inl nA))) (mB : ws[b + 8]? = some (A 8, .inl (cI, 60, .inl nB))) (mC : ws[b + 9]? = some (A 9, .inl (cJ, 60, .inr (.inl nC)))) (mL : ws[b + 10]? = some (A 10, .inl (cZ, 60, .inl Lf))) (hN1 : 1 ≤ N) (hN5 : N ≤ 5) {X : Nat → Nat → Int64} (hX : lm_ag N D0 X) {x y : Int32} (hx0 : lr_tm x (2 * N)) (hy0 : lr_tm y (2 * N)) (h60 : nm < 60) : Met l y_M_listRow w_M_listRow ({ frames := 3, cells := 0, slots := 0, locals := 44 } : Room) (gw_Pc D classes (gT cJ cI cZ cS) [.ref (A 0), .int x, .int y] ws sz) (va_Qv (fun w => (∃ nm1 nA1 nB1 nC1 Lf1, lm_lsO (lm_bd X x y) x y nm nA nB nC Lf nm1 nA1 nB1 nC1 Lf1 ∧ mAt cJ cI cZ w b A N th nm1 R Em D0 O Md Pt nA1 nB1 nC1 Lf1) ∧ gF b (b + 11) ws w) (gw_B D classes (gT cJ cI cZ cS) ws sz) (va_A ws sz)) 0 0 (va_A ws sz) := by
  refine gw_head (by decide) (Nat.le_of_ble_eq_true rfl) (fun p e s m below meth c hsz hx hb hr hlocks hml hown hnm hts hK hN hP hD hS hA ls hl => ?_)
  have hown : s.vm.findClass R_M = some m.cls := hown
  have hT : ∀ w ∈ wG, w ∈ Cond.code y_M_listRow b_M_listRow 5 none :: wG := gd_t _
  have hF : CallFix p m c b_M_listRow 5 s ([.ref (A 0), .int x, .int y] : List Value).toArray (Cond.code y_M_listRow b_M_listRow 5 none :: wG) R_M := ⟨hx, hb, hml, hown, hts⟩
  have hl : lv_has ls 5 [(0, .ref (A 0)), (1, .int x), (2, .int y)] := hl
  have hfr : gF b (b + 11) ws ws := gF.rf
  refine lv_aload_n hx hb d_M_listRow_0 rfl (lv_at hl 0 rfl) ?_
  refine lv_iload_n hx hb d_M_listRow_1 rfl (lv_at hl 1 rfl) ?_
  refine lv_iload_n hx hb d_M_listRow_2 rfl (lv_at hl 2 rfl) ?_
  refine gw_cl0 (gc_M_104 (As := [.int x, .int y]) (rest := []) hF hT (c_M_boundOf m0 mD hN1 hN5 hX hx0 hy0) ⟨(Nat.le_of_ble_eq_true rfl), (Nat.le_of_ble_eq_true rfl)⟩ rfl rfl hK hN hP hD m0 rfl hl.1 rfl (Nat.le_of_ble_eq_true rfl) d_M_listRow_3 ⟨(Nat.le_of_ble_eq_true rfl), (Nat.le_of_ble_eq_true rfl)⟩) hD hS hA (fun r1 H locs e_r1 hP hD hS => ?_)
  subst e_r1
  refine lv_lstore_n (lv' := [(3, .long (lm_bd X x y)), (0, .ref (A 0)), (1, .int x), (2, .int y)]) hx hb d_M_listRow_6 rfl hl (by decide) rfl (fun ls hl => ?_)
  refine lv_lload_n hx hb d_M_listRow_7 rfl (lv_at hl 0 rfl) ?_
  refine lv_ldc2 (v := lr_E) hx hb hown (hts _ (hT _ wm_3_124)) d_M_listRow_8 ?_
  refine gx_leq (tgt := 65) hx hb d_M_listRow_11 d_M_listRow_12 (by decide) (fun c2 => ?_) (fun c2 => ?_)
  · exact gw_vret hx hb hr hlocks hK hP hD hS (Nat.le_of_ble_eq_true rfl) (Nat.le_of_ble_eq_true rfl) d_M_listRow_65 ⟨⟨_, _, _, _, _, Or.inl ⟨c2, rfl, rfl, rfl, rfl, rfl⟩, ⟨m0, mR, mE, mD, mO, mM, mP, mA, mB, mC, mL⟩⟩, hfr⟩
  · refine lv_aload_n hx hb d_M_listRow_15 rfl (lv_at hl 1 rfl) ?_
    refine gf_M_29 hF hT hK hP m0 rfl d_M_listRow_16 ?_
    refine lv_aload_n hx hb d_M_listRow_19 rfl (lv_at hl 1 rfl) ?_
    refine gf_M_150 hF hT hK hP m0 rfl d_M_listRow_20 ?_
    refine lv_iload_n hx hb d_M_listRow_23 rfl (lv_at hl 2 rfl) ?_
    refine g_iast (t0 := 1) (k := nm) hx hb hK hP hD hS mA rfl (by omega) (by omega) d_M_listRow_24 (fun w H locs mA hf hP hD hS => ?_)
    have m0 := hf.at m0 (by omega)
    have mR := hf.at mR (by omega)
    have mE := hf.at mE (by omega)
    have mD := hf.at mD (by omega)
    have mO := hf.at mO (by omega)
    have mM := hf.at mM (by omega)
    have mP := hf.at mP (by omega)
    have mB := hf.at mB (by omega)
    have mC := hf.at mC (by omega)
    have mL := hf.at mL (by omega)
    have hfr := hfr.in hf (by omega) (by omega)
    refine lv_aload_n hx hb d_M_listRow_25 rfl (lv_at hl 1 rfl) ?_
    refine gf_M_33 hF hT hK hP m0 rfl d_M_listRow_26 ?_
    refine lv_aload_n hx hb d_M_listRow_29 rfl (lv_at hl 1 rfl) ?_
    refine gf_M_150 hF hT hK hP m0 rfl d_M_listRow_30 ?_
    refine lv_iload_n hx hb d_M_listRow_33 rfl (lv_at hl 3 rfl) ?_
    refine g_iast (t0 := 1) (k := nm) hx hb hK hP hD hS mB rfl (by omega) (by omega) d_M_listRow_34 (fun w H locs mB hf hP hD hS => ?_)
    have m0 := hf.at m0 (by omega)
    have mR := hf.at mR (by omega)
    have mE := hf.at mE (by omega)
    have mD := hf.at mD (by omega)
    have mO := hf.at mO (by omega)
    have mM := hf.at mM (by omega)
    have mP := hf.at mP (by omega)
    have mA := hf.at mA (by omega)
    have mC := hf.at mC (by omega)
    have mL := hf.at mL (by omega)
    have hfr := hfr.in hf (by omega) (by omega)
    refine lv_aload_n hx hb d_M_listRow_35 rfl (lv_at hl 1 rfl) ?_
    refine gf_M_36 hF hT hK hP m0 rfl d_M_listRow_36 ?_
    refine lv_aload_n hx hb d_M_listRow_39 rfl (lv_at hl 1 rfl) ?_
    refine gf_M_150 hF hT hK hP m0 rfl d_M_listRow_40 ?_
    refine lv_lload_n hx hb d_M_listRow_43 rfl (lv_at hl 0 rfl) ?_
    refine g_last (t0 := 0) (k := nm) hx hb hK hP hD hS mC rfl (by omega) (by omega) d_M_listRow_44 (fun w H locs mC hf hP hD hS => ?_)
    have m0 := hf.at m0 (by omega)
    have mR := hf.at mR (by omega)
    have mE := hf.at mE (by omega)
    have mD := hf.at mD (by omega)
    have mO := hf.at mO (by omega)
    have mM := hf.at mM (by omega)
    have mP := hf.at mP (by omega)
    have mA := hf.at mA (by omega)
    have mB := hf.at mB (by omega)
    have mL := hf.at mL (by omega)
    have hfr := hfr.in hf (by omega) (by omega)
    refine lv_aload_n hx hb d_M_listRow_45 rfl (lv_at hl 1 rfl) ?_
    refine gf_M_39 hF hT hK hP m0 rfl d_M_listRow_46 ?_
    refine lv_aload_n hx hb d_M_listRow_49 rfl (lv_at hl 1 rfl) ?_
    refine gf_M_150 hF hT hK hP m0 rfl d_M_listRow_50 ?_
    refine lv_iconst (v := nI 1) hx hb d_M_listRow_53 (by decide) ?_
    refine g_zast (t0 := 2) (k := nm) hx hb hK hP hD hS mL rfl (by omega) (by omega) (Or.inr rfl) d_M_listRow_54 (fun w H locs mL hf hP hD hS => ?_)
    have m0 := hf.at m0 (by omega)
    have mR := hf.at mR (by omega)
    have mE := hf.at mE (by omega)
    have mD := hf.at mD (by omega)
    have mO := hf.at mO (by omega)
    have mM := hf.at mM (by omega)
    have mP := hf.at mP (by omega)
    have mA := hf.at mA (by omega)
    have mB := hf.at mB (by omega)
    have mC := hf.at mC (by omega)
    have hfr := hfr.in hf (by omega) (by omega)
    refine lv_aload_n hx hb d_M_listRow_55 rfl (lv_at hl 1 rfl) ?_
    refine lv_dup hx hb d_M_listRow_56 rfl ?_
    refine gf_M_150 hF hT hK hP m0 rfl d_M_listRow_57 ?_
    refine lv_iconst (v := nI 1) hx hb d_M_listRow_60 (by decide) ?_
    refine lv_iadd hx hb d_M_listRow_61 ?_
    refine gx_i (y := nI (nm + 1)) (nI_add _ _) ?_
    refine gp_M_150 hF hT hK hP hD hS (fs1 := [.int th, .int (nI N), .ref (A 1), .ref (A 2), .ref (A 3), .ref (A 4), .ref (A 5), .ref (A 6), .int (nI (nm + 1)), .ref (A 7), .ref (A 8), .ref (A 9), .ref (A 10)]) m0 rfl rfl (Nat.le_of_ble_eq_true rfl) rfl d_M_listRow_62 (fun w H locs m0 hf hP hD hS => ?_)
    have mR := hf.at mR (by omega)
    have mE := hf.at mE (by omega)
    have mD := hf.at mD (by omega)
    have mO := hf.at mO (by omega)
    have mM := hf.at mM (by omega)
    have mP := hf.at mP (by omega)
    have mA := hf.at mA (by omega)
    have mB := hf.at mB (by omega)
    have mC := hf.at mC (by omega)
    have mL := hf.at mL (by omega)
    have hfr := hfr.in hf (by omega) (by omega)
    exact gw_vret hx hb hr hlocks hK hP hD hS (Nat.le_of_ble_eq_true rfl) (Nat.le_of_ble_eq_true rfl) d_M_listRow_65 ⟨⟨_, _, _, _, _, Or.inr ⟨c2, rfl, rfl, rfl, rfl, rfl⟩, ⟨m0, mR, mE, mD, mO, mM, mP, mA, mB, mC, mL⟩⟩, hfr⟩
