set_option maxHeartbeats 4000000 in
set_option maxRecDepth 100000 in
theorem c_JA_fill {l : Launch} {D : va_G} {cJ cI cZ cS : ClassId} {ws : va_W} {sz : Nat} {j g N : Nat} {f : Nat → Int64} {v : Int64} (hC : ws[j]? = some (g, .inl (cJ, N, .inr (.inl f)))) (hN1 : N < 2 ^ 30) : Met l y_JA_fill w_JA_fill ({ frames := 1, cells := 0, slots := 0, locals := 0 } : Room) (gw_Pc D classes (gT cJ cI cZ cS) [.ref g, .long v] ws sz) (va_Qv (fun w => w[j]? = some (g, .inl (cJ, N, .inr (.inl (lr_fill f N v)))) ∧ gF j (j + 1) ws w) (gw_B D classes (gT cJ cI cZ cS) ws sz) (va_A ws sz)) 0 0 (va_A ws sz) := by
  refine gw_head (by decide) (Nat.le_of_ble_eq_true rfl) (fun p e s m below meth c hsz hx hb hr hlocks hml hown hnm hts hK hN hP hD hS hA ls hl => ?_)
  have hown : s.vm.findClass R_JA = some m.cls := hown
  have hT : ∀ w ∈ wG, w ∈ Cond.code y_JA_fill b_JA_fill 5 none :: wG := gd_t _
  have hF : CallFix p m c b_JA_fill 5 s ([.ref g, .long v] : List Value).toArray (Cond.code y_JA_fill b_JA_fill 5 none :: wG) R_JA := ⟨hx, hb, hml, hown, hts⟩
  have hl : lv_has ls 5 [(0, .ref g), (1, .long v)] := hl
  have hfr : gF j (j + 1) ws ws := gF.rf
  refine lv_iconst (v := nI 0) hx hb d_JA_fill_0 (by decide) ?_
  refine lv_istore_n (lv' := [(3, .int (nI 0)), (0, .ref g), (1, .long v)]) hx hb d_JA_fill_1 rfl hl (by decide) rfl (fun ls hl => ?_)
  refine lv_aload_n hx hb d_JA_fill_2 rfl (lv_at hl 1 rfl) ?_
  refine va_alen (v := nI N) hx hb hK hP _ 0 hC rfl rfl d_JA_fill_3 ?_
  refine lv_istore (lv' := [(4, .int (nI N)), (3, .int (nI 0)), (0, .ref g), (1, .long v)]) hx hb d_JA_fill_4 hl (by decide) rfl (fun ls hl => ?_)
  have lp_6 : ∀ (dd i : Nat), i + dd = N → ∀ (w : va_W) (H : Heap) (locs : List Loc) (ls : Array Slot), w[j]? = some (g, .inl (cJ, N, .inr (.inl (lr_it (fun i f => vp_updL f i v) i f)))) → gF j (j + 1) ws w → va_P D classes w H → va_D (va_A ws sz) w → va_S (va_A ws sz) s.heap H locs → lv_has ls 5 [(4, .int (nI N)), (3, .int (nI i)), (0, .ref g), (1, .long v)] → W p l e ({ frames := 1, cells := 0, slots := 0, locals := 0 } : Room) s m ([.ref g, .long v] : List Value).toArray below meth c H locs 0 0 (MQ below (va_Qv (fun w => w[j]? = some (g, .inl (cJ, N, .inr (.inl (lr_fill f N v)))) ∧ gF j (j + 1) ws w) (gw_B D classes (gT cJ cI cZ cS) ws sz) (va_A ws sz)) ([.ref g, .long v] : List Value).toArray s 0 0 (va_A ws sz)) (F0 m 6 ls []) := by
    intro dd
    induction dd with
    | zero =>
      intro i e_i w H locs ls hC hfr hP hD hS hl
      have e0_i : N = i := by omega
      subst e0_i
      refine lv_iload_n hx hb d_JA_fill_6 rfl (lv_at hl 1 rfl) ?_
      refine lv_iload hx hb d_JA_fill_7 (lv_at hl 0 rfl) ?_
      refine lv_icmp_ge (tgt := 22) hx hb d_JA_fill_9 (by decide) (fun c1 => ?_) (fun c1 => ?_)
      · have c1 := (nI_leI (a := N) (b := N) (by omega) (by omega)).mp c1
        exact gw_vret hx hb hr hlocks hK hP hD hS (Nat.le_of_ble_eq_true rfl) (Nat.le_of_ble_eq_true rfl) d_JA_fill_22 ⟨hC, hfr⟩
      · have c1 : ¬ (N ≤ N) := fun z => c1 ((nI_leI (a := N) (b := N) (by omega) (by omega)).mpr z)
        exfalso; omega
    | succ dd ih_6 =>
      intro i e_i w H locs ls hC hfr hP hD hS hl
      refine lv_iload_n hx hb d_JA_fill_6 rfl (lv_at hl 1 rfl) ?_
      refine lv_iload hx hb d_JA_fill_7 (lv_at hl 0 rfl) ?_
      refine lv_icmp_ge (tgt := 22) hx hb d_JA_fill_9 (by decide) (fun c2 => ?_) (fun c2 => ?_)
      · have c2 := (nI_leI (a := N) (b := i) (by omega) (by omega)).mp c2
        exfalso; omega
      · have c2 : ¬ (N ≤ i) := fun z => c2 ((nI_leI (a := N) (b := i) (by omega) (by omega)).mpr z)
        refine lv_aload_n hx hb d_JA_fill_12 rfl (lv_at hl 2 rfl) ?_
        refine lv_iload_n hx hb d_JA_fill_13 rfl (lv_at hl 1 rfl) ?_
        refine lv_lload_n hx hb d_JA_fill_14 rfl (lv_at hl 3 rfl) ?_
        refine g_last (t0 := 0) (k := i) hx hb hK hP hD hS hC rfl (by omega) (by omega) d_JA_fill_15 (fun w H locs hC hf hP hD hS => ?_)
        have hfr := hfr.in hf (by omega) (by omega)
        refine lv_iinc (v := nI (i + 1)) (lv' := [(3, .int (nI (i + 1))), (4, .int (nI N)), (0, .ref g), (1, .long v)]) hx hb d_JA_fill_16 hl (k := 1) rfl (gx_inc _) (by decide) rfl (fun ls hl => ?_)
        refine lv_goto (tgt := 6) hx hb d_JA_fill_19 (by decide) ?_
        exact ih_6 (i + 1) (by omega) _ _ _ _ hC hfr hP hD hS (lv_sub hl [1, 0, 2, 3] rfl)
  exact lp_6 N 0 (by omega) _ _ _ _ hC hfr hP hD hS (lv_sub hl [0, 1, 2, 3] rfl)

set_option maxHeartbeats 4000000 in
set_option maxRecDepth 100000 in
theorem c_T_at {l : Launch} {D : va_G} {cJ cI cZ cS : ClassId} {ws : va_W} {sz : Nat} {j h g n : Nat} {f : Nat → Int64} (ht : tbAt cJ ws j h g n f) (hn : n ≤ 10) {i k : Nat} (hi : i < n) (hk : k < n) : Met l y_T_at w_T_at ({ frames := 1, cells := 0, slots := 0, locals := 0 } : Room) (gw_Pc D classes (gT cJ cI cZ cS) [.ref h, .int (nI i), .int (nI k)] ws sz) (va_Ql (fun r w => (r = f (i * n + k)) ∧ w = ws) (gw_B D classes (gT cJ cI cZ cS) ws sz) (va_A ws sz)) 0 0 (va_A ws sz) := by
  refine gw_head (by decide) (Nat.le_of_ble_eq_true rfl) (fun p e s m below meth c hsz hx hb hr hlocks hml hown hnm hts hK hN hP hD hS hA ls hl => ?_)
  have hown : s.vm.findClass R_T = some m.cls := hown
  have hT : ∀ w ∈ wG, w ∈ Cond.code y_T_at b_T_at 3 (some .long) :: wG := gd_t _
  have hF : CallFix p m c b_T_at 3 s ([.ref h, .int (nI i), .int (nI k)] : List Value).toArray (Cond.code y_T_at b_T_at 3 (some .long) :: wG) R_T := ⟨hx, hb, hml, hown, hts⟩
  have hl : lv_has ls 3 [(0, .ref h), (1, .int (nI i)), (2, .int (nI k))] := hl
  obtain ⟨hO, hC⟩ := ht
  refine lv_aload_n hx hb d_T_at_0 rfl (lv_at hl 0 rfl) ?_
  refine gf_T_15 hF hT hK hP hO rfl d_T_at_1 ?_
  refine lv_iload_n hx hb d_T_at_4 rfl (lv_at hl 1 rfl) ?_
  refine lv_aload_n hx hb d_T_at_5 rfl (lv_at hl 0 rfl) ?_
  refine gf_T_9 hF hT hK hP hO rfl d_T_at_6 ?_
  refine lv_imul hx hb d_T_at_9 ?_
  refine gx_i (y := nI (i * n)) (pk_mul _ _) ?_
  refine lv_iload_n hx hb d_T_at_10 rfl (lv_at hl 2 rfl) ?_
  refine lv_iadd hx hb d_T_at_11 ?_
  refine gx_i (y := nI ((i * n) + k)) (nI_add _ _) ?_
  refine g_lald (t0 := 0) (k := (i * n) + k) hx hb hK hP hC rfl (lr_ix (by omega) (by omega)) (lr_sq hn) d_T_at_12 ?_
  exact gw_lret hx hb hr hlocks hK hP hD hS (Nat.le_of_ble_eq_true rfl) (Nat.le_of_ble_eq_true rfl) d_T_at_13 ⟨rfl, rfl⟩

set_option maxHeartbeats 4000000 in
set_option maxRecDepth 100000 in
theorem c_T_half {l : Launch} {D : va_G} {cJ cI cZ cS : ClassId} {ws : va_W} {sz : Nat} {j h g n : Nat} {f : Nat → Int64} (ht : tbAt cJ ws j h g n f) (hn : n ≤ 10) {i : Nat} (hi : i < n) : Met l y_T_half w_T_half ({ frames := 2, cells := 0, slots := 0, locals := 22 } : Room) (gw_Pc D classes (gT cJ cI cZ cS) [.ref h, .int (nI i)] ws sz) (va_Ql (fun r w => (r = lr_half f n i) ∧ w = ws) (gw_B D classes (gT cJ cI cZ cS) ws sz) (va_A ws sz)) 0 0 (va_A ws sz) := by
  refine gw_head (by decide) (Nat.le_of_ble_eq_true rfl) (fun p e s m below meth c hsz hx hb hr hlocks hml hown hnm hts hK hN hP hD hS hA ls hl => ?_)
  have hown : s.vm.findClass R_T = some m.cls := hown
  have hT : ∀ w ∈ wG, w ∈ Cond.code y_T_half b_T_half 2 (some .long) :: wG := gd_t _
  have hF : CallFix p m c b_T_half 2 s ([.ref h, .int (nI i)] : List Value).toArray (Cond.code y_T_half b_T_half 2 (some .long) :: wG) R_T := ⟨hx, hb, hml, hown, hts⟩
  have hl : lv_has ls 2 [(0, .ref h), (1, .int (nI i))] := hl
  obtain ⟨hO, hC⟩ := ht
  refine lv_aload_n hx hb d_T_half_0 rfl (lv_at hl 0 rfl) ?_
  refine lv_iload_n hx hb d_T_half_1 rfl (lv_at hl 1 rfl) ?_
  refine lv_iload_n hx hb d_T_half_2 rfl (lv_at hl 1 rfl) ?_
  refine gw_cl0 (gc_T_27 (As := [.int (nI i), .int (nI i)]) (rest := []) hF hT (c_T_at ⟨hO, hC⟩ hn (by omega) (by omega)) ⟨(Nat.le_of_ble_eq_true rfl), (Nat.le_of_ble_eq_true rfl)⟩ rfl rfl hK hN hP hD hO rfl hl.1 rfl (Nat.le_of_ble_eq_true rfl) d_T_half_3 ⟨(Nat.le_of_ble_eq_true rfl), (Nat.le_of_ble_eq_true rfl)⟩) hD hS hA (fun r1 H locs e_r1 hP hD hS => ?_)
  subst e_r1
  refine lv_ldc2 (v := lr_E) hx hb hown (hts _ (hT _ wm_1_41)) d_T_half_6 ?_
  refine gx_lne (tgt := 19) hx hb d_T_half_9 d_T_half_10 (by decide) (fun c2 => ?_) (fun c2 => ?_)
  · refine lv_aload_n hx hb d_T_half_19 rfl (lv_at hl 0 rfl) ?_
    refine lv_iload_n hx hb d_T_half_20 rfl (lv_at hl 1 rfl) ?_
    refine lv_iload_n hx hb d_T_half_21 rfl (lv_at hl 1 rfl) ?_
    refine gw_cl0 (gc_T_27 (As := [.int (nI i), .int (nI i)]) (rest := []) hF hT (c_T_at ⟨hO, hC⟩ hn (by omega) (by omega)) ⟨(Nat.le_of_ble_eq_true rfl), (Nat.le_of_ble_eq_true rfl)⟩ rfl rfl hK hN hP hD hO rfl hl.1 rfl (Nat.le_of_ble_eq_true rfl) d_T_half_22 ⟨(Nat.le_of_ble_eq_true rfl), (Nat.le_of_ble_eq_true rfl)⟩) hD hS hA (fun r3 H locs e_r3 hP hD hS => ?_)
    subst e_r3
    refine lv_ldc2 (v := (2 : Int64)) hx hb hown (hts _ (hT _ wm_2_52)) d_T_half_25 ?_
    refine lv_ldiv hx hb d_T_half_28 (by decide) ?_
    exact gw_lret hx hb hr hlocks hK hP hD hS (Nat.le_of_ble_eq_true rfl) (Nat.le_of_ble_eq_true rfl) d_T_half_29 ⟨by unfold lr_half; simp [*], rfl⟩
  · refine lv_ldc2 (v := lr_E) hx hb hown (hts _ (hT _ wm_1_41)) d_T_half_13 ?_
    refine lv_goto (tgt := 29) hx hb d_T_half_16 (by decide) ?_
    exact gw_lret hx hb hr hlocks hK hP hD hS (Nat.le_of_ble_eq_true rfl) (Nat.le_of_ble_eq_true rfl) d_T_half_29 ⟨by unfold lr_half; simp [*], rfl⟩

set_option maxHeartbeats 4000000 in
set_option maxRecDepth 100000 in
theorem c_T_store {l : Launch} {D : va_G} {cJ cI cZ cS : ClassId} {ws : va_W} {sz : Nat} {j h g n : Nat} {f : Nat → Int64} (ht : tbAt cJ ws j h g n f) (hn : n ≤ 10) {i k : Nat} {v : Int64} (hi : i < n) (hk : k < n) : Met l y_T_store w_T_store ({ frames := 1, cells := 0, slots := 0, locals := 0 } : Room) (gw_Pc D classes (gT cJ cI cZ cS) [.ref h, .int (nI i), .int (nI k), .long v] ws sz) (va_Qv (fun w => tbAt cJ w j h g n (lr_store f n i k v) ∧ gF (j + 1) (j + 2) ws w) (gw_B D classes (gT cJ cI cZ cS) ws sz) (va_A ws sz)) 0 0 (va_A ws sz) := by
  refine gw_head (by decide) (Nat.le_of_ble_eq_true rfl) (fun p e s m below meth c hsz hx hb hr hlocks hml hown hnm hts hK hN hP hD hS hA ls hl => ?_)
  have hown : s.vm.findClass R_T = some m.cls := hown
  have hT : ∀ w ∈ wG, w ∈ Cond.code y_T_store b_T_store 5 none :: wG := gd_t _
  have hF : CallFix p m c b_T_store 5 s ([.ref h, .int (nI i), .int (nI k), .long v] : List Value).toArray (Cond.code y_T_store b_T_store 5 none :: wG) R_T := ⟨hx, hb, hml, hown, hts⟩
  have hl : lv_has ls 5 [(0, .ref h), (1, .int (nI i)), (2, .int (nI k)), (3, .long v)] := hl
  obtain ⟨hO, hC⟩ := ht
  have hfr : gF (j + 1) (j + 2) ws ws := gF.rf
  refine lv_aload_n hx hb d_T_store_0 rfl (lv_at hl 0 rfl) ?_
  refine gf_T_15 hF hT hK hP hO rfl d_T_store_1 ?_
  refine lv_iload_n hx hb d_T_store_4 rfl (lv_at hl 1 rfl) ?_
  refine lv_aload_n hx hb d_T_store_5 rfl (lv_at hl 0 rfl) ?_
  refine gf_T_9 hF hT hK hP hO rfl d_T_store_6 ?_
  refine lv_imul hx hb d_T_store_9 ?_
  refine gx_i (y := nI (i * n)) (pk_mul _ _) ?_
  refine lv_iload_n hx hb d_T_store_10 rfl (lv_at hl 2 rfl) ?_
  refine lv_iadd hx hb d_T_store_11 ?_
  refine gx_i (y := nI ((i * n) + k)) (nI_add _ _) ?_
  refine lv_lload_n hx hb d_T_store_12 rfl (lv_at hl 3 rfl) ?_
  refine g_last (t0 := 0) (k := (i * n) + k) hx hb hK hP hD hS hC rfl (lr_ix hi hk) (lr_sq hn) d_T_store_13 (fun w H locs hC hf hP hD hS => ?_)
  have hO := hf.at hO (by omega)
  have hfr := hfr.in hf (by omega) (by omega)
  refine lv_aload_n hx hb d_T_store_14 rfl (lv_at hl 0 rfl) ?_
  refine gf_T_15 hF hT hK hP hO rfl d_T_store_15 ?_
  refine lv_iload_n hx hb d_T_store_18 rfl (lv_at hl 2 rfl) ?_
  refine lv_aload_n hx hb d_T_store_19 rfl (lv_at hl 0 rfl) ?_
  refine gf_T_9 hF hT hK hP hO rfl d_T_store_20 ?_
  refine lv_imul hx hb d_T_store_23 ?_
  refine gx_i (y := nI (k * n)) (pk_mul _ _) ?_
  refine lv_iload_n hx hb d_T_store_24 rfl (lv_at hl 1 rfl) ?_
  refine lv_iadd hx hb d_T_store_25 ?_
  refine gx_i (y := nI ((k * n) + i)) (nI_add _ _) ?_
  refine lv_lload_n hx hb d_T_store_26 rfl (lv_at hl 3 rfl) ?_
  refine g_last (t0 := 0) (k := (k * n) + i) hx hb hK hP hD hS hC rfl (lr_ix hk hi) (lr_sq hn) d_T_store_27 (fun w H locs hC hf hP hD hS => ?_)
  have hO := hf.at hO (by omega)
  have hfr := hfr.in hf (by omega) (by omega)
  exact gw_vret hx hb hr hlocks hK hP hD hS (Nat.le_of_ble_eq_true rfl) (Nat.le_of_ble_eq_true rfl) d_T_store_28 ⟨⟨hO, hC⟩, hfr⟩

set_option maxHeartbeats 4000000 in
set_option maxRecDepth 100000 in
theorem c_T_lowerTo {l : Launch} {D : va_G} {cJ cI cZ cS : ClassId} {ws : va_W} {sz : Nat} {j h g n : Nat} {f : Nat → Int64} (ht : tbAt cJ ws j h g n f) (hn : n ≤ 10) {i k : Nat} {v : Int64} (hi : i < n) (hk : k < n) : Met l y_T_lowerTo w_T_lowerTo ({ frames := 2, cells := 0, slots := 0, locals := 24 } : Room) (gw_Pc D classes (gT cJ cI cZ cS) [.ref h, .int (nI i), .int (nI k), .long v] ws sz) (va_Qv (fun w => tbAt cJ w j h g n (lr_lower f n i k v) ∧ gF (j + 1) (j + 2) ws w) (gw_B D classes (gT cJ cI cZ cS) ws sz) (va_A ws sz)) 0 0 (va_A ws sz) := by
  refine gw_head (by decide) (Nat.le_of_ble_eq_true rfl) (fun p e s m below meth c hsz hx hb hr hlocks hml hown hnm hts hK hN hP hD hS hA ls hl => ?_)
  have hown : s.vm.findClass R_T = some m.cls := hown
  have hT : ∀ w ∈ wG, w ∈ Cond.code y_T_lowerTo b_T_lowerTo 5 none :: wG := gd_t _
  have hF : CallFix p m c b_T_lowerTo 5 s ([.ref h, .int (nI i), .int (nI k), .long v] : List Value).toArray (Cond.code y_T_lowerTo b_T_lowerTo 5 none :: wG) R_T := ⟨hx, hb, hml, hown, hts⟩
  have hl : lv_has ls 5 [(0, .ref h), (1, .int (nI i)), (2, .int (nI k)), (3, .long v)] := hl
  obtain ⟨hO, hC⟩ := ht
  have hfr : gF (j + 1) (j + 2) ws ws := gF.rf
  refine lv_aload_n hx hb d_T_lowerTo_0 rfl (lv_at hl 0 rfl) ?_
  refine lv_iload_n hx hb d_T_lowerTo_1 rfl (lv_at hl 1 rfl) ?_
  refine lv_iload_n hx hb d_T_lowerTo_2 rfl (lv_at hl 2 rfl) ?_
  refine lv_aload_n hx hb d_T_lowerTo_3 rfl (lv_at hl 0 rfl) ?_
  refine lv_iload_n hx hb d_T_lowerTo_4 rfl (lv_at hl 1 rfl) ?_
  refine lv_iload_n hx hb d_T_lowerTo_5 rfl (lv_at hl 2 rfl) ?_
  refine gw_cl0 (gc_T_27 (As := [.int (nI i), .int (nI k)]) (rest := [.int (nI k), .int (nI i), .ref h]) hF hT (c_T_at ⟨hO, hC⟩ hn (by omega) (by omega)) ⟨(Nat.le_of_ble_eq_true rfl), (Nat.le_of_ble_eq_true rfl)⟩ rfl rfl hK hN hP hD hO rfl hl.1 rfl (Nat.le_of_ble_eq_true rfl) d_T_lowerTo_6 ⟨(Nat.le_of_ble_eq_true rfl), (Nat.le_of_ble_eq_true rfl)⟩) hD hS hA (fun r1 H locs e_r1 hP hD hS => ?_)
  subst e_r1
  refine lv_lload_n hx hb d_T_lowerTo_9 rfl (lv_at hl 3 rfl) ?_
  refine va_mmin_long hx hb (by rw [hml]; exact hl.1.symm) hown (hts _ (hT _ wm_2_21)) (hts _ (hT _ wm_2_22)) (hts _ (hT _ wm_1_2)) (hts _ (hT _ wm_2_23)) (Nat.le_of_ble_eq_true rfl) (Nat.le_of_ble_eq_true rfl) (Nat.le_of_ble_eq_true rfl) (Nat.le_of_ble_eq_true rfl) d_T_lowerTo_10 ?_
  refine gx_l (y := lr_min (f (i * n + k)) v) rfl ?_
  refine gw_cv (gc_T_47 (As := [.int (nI i), .int (nI k), .long (lr_min (f (i * n + k)) v)]) (rest := []) hF hT (c_T_store ⟨hO, hC⟩ hn (by omega) (by omega)) ⟨(Nat.le_of_ble_eq_true rfl), (Nat.le_of_ble_eq_true rfl)⟩ rfl rfl hK hN hP hD hO rfl hl.1 rfl (Nat.le_of_ble_eq_true rfl) d_T_lowerTo_13 ⟨(Nat.le_of_ble_eq_true rfl), (Nat.le_of_ble_eq_true rfl)⟩) hD hS hA (fun w H locs hw hP hD hS => ?_)
  obtain ⟨⟨hO, hC⟩, hf⟩ := hw
  have hfr := hfr.in hf (by omega) (by omega)
  exact gw_vret hx hb hr hlocks hK hP hD hS (Nat.le_of_ble_eq_true rfl) (Nat.le_of_ble_eq_true rfl) d_T_lowerTo_16 ⟨⟨hO, hC⟩, hfr⟩

set_option maxHeartbeats 4000000 in
set_option maxRecDepth 100000 in
theorem c_T_dropRows {l : Launch} {D : va_G} {cJ cI cZ cS : ClassId} {ws : va_W} {sz : Nat} {j h g n : Nat} {f : Nat → Int64} (ht : tbAt cJ ws j h g n f) (hn : n ≤ 10) : Met l y_T_dropRows w_T_dropRows ({ frames := 2, cells := 0, slots := 0, locals := 24 } : Room) (gw_Pc D classes (gT cJ cI cZ cS) [.ref h] ws sz) (va_Qv (fun w => tbAt cJ w j h g n (lr_fill f (n * n) lr_E) ∧ gF (j + 1) (j + 2) ws w) (gw_B D classes (gT cJ cI cZ cS) ws sz) (va_A ws sz)) 0 0 (va_A ws sz) := by
  refine gw_head (by decide) (Nat.le_of_ble_eq_true rfl) (fun p e s m below meth c hsz hx hb hr hlocks hml hown hnm hts hK hN hP hD hS hA ls hl => ?_)
  have hown : s.vm.findClass R_T = some m.cls := hown
  have hT : ∀ w ∈ wG, w ∈ Cond.code y_T_dropRows b_T_dropRows 1 none :: wG := gd_t _
  have hF : CallFix p m c b_T_dropRows 1 s ([.ref h] : List Value).toArray (Cond.code y_T_dropRows b_T_dropRows 1 none :: wG) R_T := ⟨hx, hb, hml, hown, hts⟩
  have hl : lv_has ls 1 [(0, .ref h)] := hl
  obtain ⟨hO, hC⟩ := ht
  have hfr : gF (j + 1) (j + 2) ws ws := gF.rf
  refine lv_aload_n hx hb d_T_dropRows_0 rfl (lv_at hl 0 rfl) ?_
  refine gf_T_15 hF hT hK hP hO rfl d_T_dropRows_1 ?_
  refine lv_ldc2 (v := lr_E) hx hb hown (hts _ (hT _ wm_1_41)) d_T_dropRows_4 ?_
  refine gw_cv (gc_T_21 (As := [.ref g, .long lr_E]) (rest := []) hF hT (c_JA_fill hC (Nat.lt_of_le_of_lt (lr_sq1 hn) (by decide))) ⟨(Nat.le_of_ble_eq_true rfl), (Nat.le_of_ble_eq_true rfl)⟩ rfl rfl hK hN hP hD rfl hl.1 rfl (Nat.le_of_ble_eq_true rfl) d_T_dropRows_7 ⟨(Nat.le_of_ble_eq_true rfl), (Nat.le_of_ble_eq_true rfl)⟩) hD hS hA (fun w H locs hw hP hD hS => ?_)
  obtain ⟨hC, hf⟩ := hw
  have hO := hf.at hO (by omega)
  have hfr := hfr.in hf (by omega) (by omega)
  exact gw_vret hx hb hr hlocks hK hP hD hS (Nat.le_of_ble_eq_true rfl) (Nat.le_of_ble_eq_true rfl) d_T_dropRows_10 ⟨⟨hO, hC⟩, hfr⟩

set_option maxHeartbeats 4000000 in
set_option maxRecDepth 100000 in
theorem c_T_storeOpposites {l : Launch} {D : va_G} {cJ cI cZ cS : ClassId} {ws : va_W} {sz : Nat} {j h g n : Nat} {f : Nat → Int64} (ht : tbAt cJ ws j h g n f) (hn : n ≤ 10) {v : Int64} (he : n % 2 = 0) : Met l y_T_storeOpposites w_T_storeOpposites ({ frames := 1, cells := 0, slots := 0, locals := 0 } : Room) (gw_Pc D classes (gT cJ cI cZ cS) [.ref h, .long v] ws sz) (va_Qv (fun w => tbAt cJ w j h g n (lr_opps f n v) ∧ gF (j + 1) (j + 2) ws w) (gw_B D classes (gT cJ cI cZ cS) ws sz) (va_A ws sz)) 0 0 (va_A ws sz) := by
  refine gw_head (by decide) (Nat.le_of_ble_eq_true rfl) (fun p e s m below meth c hsz hx hb hr hlocks hml hown hnm hts hK hN hP hD hS hA ls hl => ?_)
  have hown : s.vm.findClass R_T = some m.cls := hown
  have hT : ∀ w ∈ wG, w ∈ Cond.code y_T_storeOpposites b_T_storeOpposites 4 none :: wG := gd_t _
  have hF : CallFix p m c b_T_storeOpposites 4 s ([.ref h, .long v] : List Value).toArray (Cond.code y_T_storeOpposites b_T_storeOpposites 4 none :: wG) R_T := ⟨hx, hb, hml, hown, hts⟩
  have hl : lv_has ls 4 [(0, .ref h), (1, .long v)] := hl
  obtain ⟨hO, hC⟩ := ht
  have hfr : gF (j + 1) (j + 2) ws ws := gF.rf
  refine lv_iconst (v := nI 0) hx hb d_T_storeOpposites_0 (by decide) ?_
  refine lv_istore_n (lv' := [(3, .int (nI 0)), (0, .ref h), (1, .long v)]) hx hb d_T_storeOpposites_1 rfl hl (by decide) rfl (fun ls hl => ?_)
  have lp_2 : ∀ (dd i : Nat), i + dd = n → ∀ (w : va_W) (H : Heap) (locs : List Loc) (ls : Array Slot), w[j]? = some (h, .inr (0, [.int (nI n), .ref g])) → w[j + 1]? = some (g, .inl (cJ, n * n, .inr (.inl (lr_it (fun i f => vp_updL f (i * n + lr_op i) v) i f)))) → gF (j + 1) (j + 2) ws w → va_P D classes w H → va_D (va_A ws sz) w → va_S (va_A ws sz) s.heap H locs → lv_has ls 4 [(3, .int (nI i)), (0, .ref h), (1, .long v)] → W p l e ({ frames := 1, cells := 0, slots := 0, locals := 0 } : Room) s m ([.ref h, .long v] : List Value).toArray below meth c H locs 0 0 (MQ below (va_Qv (fun w => tbAt cJ w j h g n (lr_opps f n v) ∧ gF (j + 1) (j + 2) ws w) (gw_B D classes (gT cJ cI cZ cS) ws sz) (va_A ws sz)) ([.ref h, .long v] : List Value).toArray s 0 0 (va_A ws sz)) (F0 m 2 ls []) := by
    intro dd
    induction dd with
    | zero =>
      intro i e_i w H locs ls hO hC hfr hP hD hS hl
      have e0_i : n = i := by omega
      subst e0_i
      refine lv_iload_n hx hb d_T_storeOpposites_2 rfl (lv_at hl 0 rfl) ?_
      refine lv_aload_n hx hb d_T_storeOpposites_3 rfl (lv_at hl 1 rfl) ?_
      refine gf_T_9 hF hT hK hP hO rfl d_T_storeOpposites_4 ?_
      refine lv_icmp_ge (tgt := 32) hx hb d_T_storeOpposites_7 (by decide) (fun c1 => ?_) (fun c1 => ?_)
      · have c1 := (nI_leI (a := n) (b := n) (by omega) (by omega)).mp c1
        exact gw_vret hx hb hr hlocks hK hP hD hS (Nat.le_of_ble_eq_true rfl) (Nat.le_of_ble_eq_true rfl) d_T_storeOpposites_32 ⟨⟨hO, hC⟩, hfr⟩
      · have c1 : ¬ (n ≤ n) := fun z => c1 ((nI_leI (a := n) (b := n) (by omega) (by omega)).mpr z)
        exfalso; omega
    | succ dd ih_2 =>
      intro i e_i w H locs ls hO hC hfr hP hD hS hl
      refine lv_iload_n hx hb d_T_storeOpposites_2 rfl (lv_at hl 0 rfl) ?_
      refine lv_aload_n hx hb d_T_storeOpposites_3 rfl (lv_at hl 1 rfl) ?_
      refine gf_T_9 hF hT hK hP hO rfl d_T_storeOpposites_4 ?_
      refine lv_icmp_ge (tgt := 32) hx hb d_T_storeOpposites_7 (by decide) (fun c2 => ?_) (fun c2 => ?_)
      · have c2 := (nI_leI (a := n) (b := i) (by omega) (by omega)).mp c2
        exfalso; omega
      · have c2 : ¬ (n ≤ i) := fun z => c2 ((nI_leI (a := n) (b := i) (by omega) (by omega)).mpr z)
        refine lv_aload_n hx hb d_T_storeOpposites_10 rfl (lv_at hl 1 rfl) ?_
        refine gf_T_15 hF hT hK hP hO rfl d_T_storeOpposites_11 ?_
        refine lv_iload_n hx hb d_T_storeOpposites_14 rfl (lv_at hl 0 rfl) ?_
        refine lv_aload_n hx hb d_T_storeOpposites_15 rfl (lv_at hl 1 rfl) ?_
        refine gf_T_9 hF hT hK hP hO rfl d_T_storeOpposites_16 ?_
        refine lv_imul hx hb d_T_storeOpposites_19 ?_
        refine gx_i (y := nI (i * n)) (pk_mul _ _) ?_
        refine lv_iload_n hx hb d_T_storeOpposites_20 rfl (lv_at hl 0 rfl) ?_
        refine lv_iconst (v := nI 1) hx hb d_T_storeOpposites_21 (by decide) ?_
        refine lv_ixor hx hb d_T_storeOpposites_22 ?_
        refine gx_i (y := nI (lr_op i)) (nx_op (by omega)) ?_
        refine lv_iadd hx hb d_T_storeOpposites_23 ?_
        refine gx_i (y := nI ((i * n) + (lr_op i))) (nI_add _ _) ?_
        refine lv_lload_n hx hb d_T_storeOpposites_24 rfl (lv_at hl 2 rfl) ?_
        refine g_last (t0 := 0) (k := (i * n) + (lr_op i)) hx hb hK hP hD hS hC rfl (lr_ix (by omega) (lr_op_lt' he (by omega))) (lr_sq hn) d_T_storeOpposites_25 (fun w H locs hC hf hP hD hS => ?_)
        have hO := hf.at hO (by omega)
        have hfr := hfr.in hf (by omega) (by omega)
        refine lv_iinc (v := nI (i + 1)) (lv' := [(3, .int (nI (i + 1))), (0, .ref h), (1, .long v)]) hx hb d_T_storeOpposites_26 hl (k := 0) rfl (gx_inc _) (by decide) rfl (fun ls hl => ?_)
        refine lv_goto (tgt := 2) hx hb d_T_storeOpposites_29 (by decide) ?_
        exact ih_2 (i + 1) (by omega) _ _ _ _ hO hC hfr hP hD hS (lv_sub hl [0, 1, 2] rfl)
  exact lp_2 n 0 (by omega) _ _ _ _ hO hC hfr hP hD hS (lv_sub hl [0, 1, 2] rfl)
