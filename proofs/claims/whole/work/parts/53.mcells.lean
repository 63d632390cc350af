set_option maxHeartbeats 4000000 in
set_option maxRecDepth 100000 in
theorem c_M_drop {l : Launch} {D : va_G} {cJ cI cZ cS : ClassId} {ws : va_W} {sz : Nat} {b N nm : Nat} {A : Nat → Nat} {th : Int32} {D0 : Nat → Int64} (m0 : ws[b]? = some (A 0, .inr (3, [.int th, .int (nI N), .ref (A 1), .ref (A 2), .ref (A 3), .ref (A 4), .ref (A 5), .ref (A 6), .int (nI nm), .ref (A 7), .ref (A 8), .ref (A 9), .ref (A 10)]))) (mD : ws[b + 3]? = some (A 3, .inl (cJ, 100, .inr (.inl D0)))) (hN1 : 1 ≤ N) (hN5 : N ≤ 5) {X : Nat → Nat → Int64} (hX : lm_ag N D0 X) {x : Nat} (hx1 : 1 ≤ x) (hxN : x ≤ N) : Met l y_M_drop w_M_drop ({ frames := 1, cells := 0, slots := 0, locals := 0 } : Room) (gw_Pc D classes (gT cJ cI cZ cS) [.ref (A 0), .int (nI x)] ws sz) (va_Qv (fun w => (∃ F, w[b + 3]? = some (A 3, .inl (cJ, 100, .inr (.inl F))) ∧ lm_ag N F (lm_dropM X x)) ∧ gF (b + 3) (b + 4) ws w) (gw_B D classes (gT cJ cI cZ cS) ws sz) (va_A ws sz)) 0 0 (va_A ws sz) := by
  refine gw_head (by decide) (Nat.le_of_ble_eq_true rfl) (fun p e s m below meth c hsz hx hb hr hlocks hml hown hnm hts hK hN hP hD hS hA ls hl => ?_)
  have hown : s.vm.findClass R_M = some m.cls := hown
  have hT : ∀ w ∈ wG, w ∈ Cond.code y_M_drop b_M_drop 4 none :: wG := gd_t _
  have hF : CallFix p m c b_M_drop 4 s ([.ref (A 0), .int (nI x)] : List Value).toArray (Cond.code y_M_drop b_M_drop 4 none :: wG) R_M := ⟨hx, hb, hml, hown, hts⟩
  have hl : lv_has ls 4 [(0, .ref (A 0)), (1, .int (nI x))] := hl
  have hfr : gF (b + 3) (b + 4) ws ws := gF.rf
  refine lv_iconst (v := nI 0) hx hb d_M_drop_0 (by decide) ?_
  refine lv_istore_n (lv' := [(2, .int (nI 0)), (0, .ref (A 0)), (1, .int (nI x))]) hx hb d_M_drop_1 rfl hl (by decide) rfl (fun ls hl => ?_)
  have lp_2 : ∀ (dd k : Nat), k + dd = 10 → ∀ (w : va_W) (H : Heap) (locs : List Loc) (ls : Array Slot), w[b]? = some (A 0, .inr (3, [.int th, .int (nI N), .ref (A 1), .ref (A 2), .ref (A 3), .ref (A 4), .ref (A 5), .ref (A 6), .int (nI nm), .ref (A 7), .ref (A 8), .ref (A 9), .ref (A 10)])) → w[b + 3]? = some (A 3, .inl (cJ, 100, .inr (.inl (lm_drp x k D0)))) → gF (b + 3) (b + 4) ws w → va_P D classes w H → va_D (va_A ws sz) w → va_S (va_A ws sz) s.heap H locs → lv_has ls 4 [(2, .int (nI k)), (0, .ref (A 0)), (1, .int (nI x))] → W p l e ({ frames := 1, cells := 0, slots := 0, locals := 0 } : Room) s m ([.ref (A 0), .int (nI x)] : List Value).toArray below meth c H locs 0 0 (MQ below (va_Qv (fun w => (∃ F, w[b + 3]? = some (A 3, .inl (cJ, 100, .inr (.inl F))) ∧ lm_ag N F (lm_dropM X x)) ∧ gF (b + 3) (b + 4) ws w) (gw_B D classes (gT cJ cI cZ cS) ws sz) (va_A ws sz)) ([.ref (A 0), .int (nI x)] : List Value).toArray s 0 0 (va_A ws sz)) (F0 m 2 ls []) := by
    intro dd
    induction dd with
    | zero =>
      intro k e_k w H locs ls m0 mD hfr hP hD hS hl
      have e0_k : 10 = k := by omega
      subst e0_k
      refine lv_iload_n hx hb d_M_drop_2 rfl (lv_at hl 0 rfl) ?_
      refine lv_bipush (v := nI 10) hx hb d_M_drop_3 (by decide) ?_
      refine lv_icmp_ge (tgt := 63) hx hb d_M_drop_5 (by decide) (fun c1 => ?_) (fun c1 => ?_)
      · have c1 := (nI_leI (a := 10) (b := 10) (by omega) (by omega)).mp c1
        exact gw_vret hx hb hr hlocks hK hP hD hS (Nat.le_of_ble_eq_true rfl) (Nat.le_of_ble_eq_true rfl) d_M_drop_63 ⟨⟨_, mD, lm_ag_drop hN5 hx1 hxN hX⟩, hfr⟩
      · have c1 : ¬ (10 ≤ 10) := fun z => c1 ((nI_leI (a := 10) (b := 10) (by omega) (by omega)).mpr z)
        exfalso; omega
    | succ dd ih_2 =>
      intro k e_k w H locs ls m0 mD hfr hP hD hS hl
      refine lv_iload_n hx hb d_M_drop_2 rfl (lv_at hl 0 rfl) ?_
      refine lv_bipush (v := nI 10) hx hb d_M_drop_3 (by decide) ?_
      refine lv_icmp_ge (tgt := 63) hx hb d_M_drop_5 (by decide) (fun c2 => ?_) (fun c2 => ?_)
      · have c2 := (nI_leI (a := 10) (b := k) (by omega) (by omega)).mp c2
        exfalso; omega
      · have c2 : ¬ (10 ≤ k) := fun z => c2 ((nI_leI (a := 10) (b := k) (by omega) (by omega)).mpr z)
        refine lv_iconst (v := nI 2) hx hb d_M_drop_8 (by decide) ?_
        refine lv_iload_n hx hb d_M_drop_9 rfl (lv_at hl 2 rfl) ?_
        refine lv_imul hx hb d_M_drop_10 ?_
        refine gx_i (y := nI (2 * x)) (pk_mul _ _) ?_
        refine lv_iconst (v := nI 2) hx hb d_M_drop_11 (by decide) ?_
        refine lv_isub hx hb d_M_drop_12 ?_
        refine gx_i (y := nI ((2 * x) - 2)) (pk_sub (by omega)) ?_
        refine lv_istore_n (lv' := [(3, .int (nI ((2 * x) - 2))), (2, .int (nI k)), (0, .ref (A 0)), (1, .int (nI x))]) hx hb d_M_drop_13 rfl hl (by decide) rfl (fun ls hl => ?_)
        have lp_14 : ∀ (dd t : Nat), t + dd = 2 → ∀ (w : va_W) (H : Heap) (locs : List Loc) (ls : Array Slot), w[b]? = some (A 0, .inr (3, [.int th, .int (nI N), .ref (A 1), .ref (A 2), .ref (A 3), .ref (A 4), .ref (A 5), .ref (A 6), .int (nI nm), .ref (A 7), .ref (A 8), .ref (A 9), .ref (A 10)])) → w[b + 3]? = some (A 3, .inl (cJ, 100, .inr (.inl (lr_it (fun t D => vp_updL (vp_updL D (10 * (2 * x - 2 + t) + k) lr_E) (10 * k + (2 * x - 2 + t)) lr_E) t (lm_drp x k D0))))) → gF (b + 3) (b + 4) ws w → va_P D classes w H → va_D (va_A ws sz) w → va_S (va_A ws sz) s.heap H locs → lv_has ls 4 [(3, .int (nI (2 * x - 2 + t))), (2, .int (nI k)), (0, .ref (A 0)), (1, .int (nI x))] → W p l e ({ frames := 1, cells := 0, slots := 0, locals := 0 } : Room) s m ([.ref (A 0), .int (nI x)] : List Value).toArray below meth c H locs 0 0 (MQ below (va_Qv (fun w => (∃ F, w[b + 3]? = some (A 3, .inl (cJ, 100, .inr (.inl F))) ∧ lm_ag N F (lm_dropM X x)) ∧ gF (b + 3) (b + 4) ws w) (gw_B D classes (gT cJ cI cZ cS) ws sz) (va_A ws sz)) ([.ref (A 0), .int (nI x)] : List Value).toArray s 0 0 (va_A ws sz)) (F0 m 14 ls []) := by
          intro dd
          induction dd with
          | zero =>
            intro t e_t w H locs ls m0 mD hfr hP hD hS hl
            have e0_t : 2 = t := by omega
            subst e0_t
            refine lv_iload_n hx hb d_M_drop_14 rfl (lv_at hl 0 rfl) ?_
            refine lv_iconst (v := nI 2) hx hb d_M_drop_15 (by decide) ?_
            refine lv_iload_n hx hb d_M_drop_16 rfl (lv_at hl 3 rfl) ?_
            refine lv_imul hx hb d_M_drop_17 ?_
            refine gx_i (y := nI (2 * x)) (pk_mul _ _) ?_
            refine lv_iconst (v := nI 1) hx hb d_M_drop_18 (by decide) ?_
            refine lv_isub hx hb d_M_drop_19 ?_
            refine gx_i (y := nI ((2 * x) - 1)) (pk_sub (by omega)) ?_
            refine lv_icmp_gt (tgt := 57) hx hb d_M_drop_20 (by decide) (fun c3 => ?_) (fun c3 => ?_)
            · have c3 := (nI_ltI (a := ((2 * x) - 1)) (b := (2 * x - 2 + 2)) (by omega) (by omega)).mp c3
              refine lv_iinc (v := nI (k + 1)) (lv' := [(2, .int (nI (k + 1))), (3, .int (nI (2 * x - 2 + 2))), (0, .ref (A 0)), (1, .int (nI x))]) hx hb d_M_drop_57 hl (k := 1) rfl (gx_inc _) (by decide) rfl (fun ls hl => ?_)
              refine lv_goto (tgt := 2) hx hb d_M_drop_60 (by decide) ?_
              exact ih_2 (k + 1) (by omega) _ _ _ _ m0 mD hfr hP hD hS (lv_sub hl [0, 2, 3] rfl)
            · have c3 : ¬ ((2 * x) - 1 < 2 * x - 2 + 2) := fun z => c3 ((nI_ltI (a := ((2 * x) - 1)) (b := (2 * x - 2 + 2)) (by omega) (by omega)).mpr z)
              exfalso; omega
          | succ dd ih_14 =>
            intro t e_t w H locs ls m0 mD hfr hP hD hS hl
            refine lv_iload_n hx hb d_M_drop_14 rfl (lv_at hl 0 rfl) ?_
            refine lv_iconst (v := nI 2) hx hb d_M_drop_15 (by decide) ?_
            refine lv_iload_n hx hb d_M_drop_16 rfl (lv_at hl 3 rfl) ?_
            refine lv_imul hx hb d_M_drop_17 ?_
            refine gx_i (y := nI (2 * x)) (pk_mul _ _) ?_
            refine lv_iconst (v := nI 1) hx hb d_M_drop_18 (by decide) ?_
            refine lv_isub hx hb d_M_drop_19 ?_
            refine gx_i (y := nI ((2 * x) - 1)) (pk_sub (by omega)) ?_
            refine lv_icmp_gt (tgt := 57) hx hb d_M_drop_20 (by decide) (fun c4 => ?_) (fun c4 => ?_)
            · have c4 := (nI_ltI (a := ((2 * x) - 1)) (b := (2 * x - 2 + t)) (by omega) (by omega)).mp c4
              exfalso; omega
            · have c4 : ¬ ((2 * x) - 1 < 2 * x - 2 + t) := fun z => c4 ((nI_ltI (a := ((2 * x) - 1)) (b := (2 * x - 2 + t)) (by omega) (by omega)).mpr z)
              refine lv_aload_n hx hb d_M_drop_23 rfl (lv_at hl 2 rfl) ?_
              refine gf_M_17 hF hT hK hP m0 rfl d_M_drop_24 ?_
              refine lv_bipush (v := nI 10) hx hb d_M_drop_27 (by decide) ?_
              refine lv_iload_n hx hb d_M_drop_29 rfl (lv_at hl 0 rfl) ?_
              refine lv_imul hx hb d_M_drop_30 ?_
              refine gx_i (y := nI (10 * (2 * x - 2 + t))) (pk_mul _ _) ?_
              refine lv_iload_n hx hb d_M_drop_31 rfl (lv_at hl 1 rfl) ?_
              refine lv_iadd hx hb d_M_drop_32 ?_
              refine gx_i (y := nI ((10 * (2 * x - 2 + t)) + k)) (nI_add _ _) ?_
              refine lv_ldc2 (v := lr_E) hx hb hown (hts _ (hT _ wm_3_124)) d_M_drop_33 ?_
              refine g_last (t0 := 0) (k := (10 * (2 * x - 2 + t)) + k) hx hb hK hP hD hS mD rfl (by omega) (by omega) d_M_drop_36 (fun w H locs mD hf hP hD hS => ?_)
              have m0 := hf.at m0 (by omega)
              have hfr := hfr.in hf (by omega) (by omega)
              refine lv_aload_n hx hb d_M_drop_37 rfl (lv_at hl 2 rfl) ?_
              refine gf_M_17 hF hT hK hP m0 rfl d_M_drop_38 ?_
              refine lv_bipush (v := nI 10) hx hb d_M_drop_41 (by decide) ?_
              refine lv_iload_n hx hb d_M_drop_43 rfl (lv_at hl 1 rfl) ?_
              refine lv_imul hx hb d_M_drop_44 ?_
              refine gx_i (y := nI (10 * k)) (pk_mul _ _) ?_
              refine lv_iload_n hx hb d_M_drop_45 rfl (lv_at hl 0 rfl) ?_
              refine lv_iadd hx hb d_M_drop_46 ?_
              refine gx_i (y := nI ((10 * k) + (2 * x - 2 + t))) (nI_add _ _) ?_
              refine lv_ldc2 (v := lr_E) hx hb hown (hts _ (hT _ wm_3_124)) d_M_drop_47 ?_
              refine g_last (t0 := 0) (k := (10 * k) + (2 * x - 2 + t)) hx hb hK hP hD hS mD rfl (by omega) (by omega) d_M_drop_50 (fun w H locs mD hf hP hD hS => ?_)
              have m0 := hf.at m0 (by omega)
              have hfr := hfr.in hf (by omega) (by omega)
              refine lv_iinc (v := nI (2 * x - 2 + t + 1)) (lv' := [(3, .int (nI (2 * x - 2 + t + 1))), (2, .int (nI k)), (0, .ref (A 0)), (1, .int (nI x))]) hx hb d_M_drop_51 hl (k := 0) rfl (gx_inc _) (by decide) rfl (fun ls hl => ?_)
              refine lv_goto (tgt := 14) hx hb d_M_drop_54 (by decide) ?_
              exact ih_14 (t + 1) (by omega) _ _ _ _ m0 mD hfr hP hD hS (lv_sub hl [0, 1, 2, 3] rfl)
        exact lp_14 2 0 (by omega) _ _ _ _ m0 mD hfr hP hD hS (lv_sub hl [0, 1, 2, 3] rfl)
  exact lp_2 10 0 (by omega) _ _ _ _ m0 mD hfr hP hD hS (lv_sub hl [0, 1, 2] rfl)

set_option maxHeartbeats 4000000 in
set_option maxRecDepth 100000 in
theorem c_M_addRow {l : Launch} {D : va_G} {cJ cI cZ cS : ClassId} {ws : va_W} {sz : Nat} {b N nm : Nat} {A : Nat → Nat} {th : Int32} {D0 : Nat → Int64} (m0 : ws[b]? = some (A 0, .inr (3, [.int th, .int (nI N), .ref (A 1), .ref (A 2), .ref (A 3), .ref (A 4), .ref (A 5), .ref (A 6), .int (nI nm), .ref (A 7), .ref (A 8), .ref (A 9), .ref (A 10)]))) (mD : ws[b + 3]? = some (A 3, .inl (cJ, 100, .inr (.inl D0)))) (hN1 : 1 ≤ N) (hN5 : N ≤ 5) {X : Nat → Nat → Int64} (hX : lm_ag N D0 X) {x y : Int32} (hx0 : lr_tm x (2 * N)) (hy0 : lr_tm y (2 * N)) {v : Int64} (hxy : ¬ (x = 0 ∧ y = 0)) : Met l y_M_addRow w_M_addRow ({ frames := 2, cells := 0, slots := 0, locals := 20 } : Room) (gw_Pc D classes (gT cJ cI cZ cS) [.ref (A 0), .int x, .int y, .long v] ws sz) (va_Qv (fun w => (∃ F, w[b + 3]? = some (A 3, .inl (cJ, 100, .inr (.inl F))) ∧ lm_ag N F (lm_addM X x y v)) ∧ gF (b + 3) (b + 4) ws w) (gw_B D classes (gT cJ cI cZ cS) ws sz) (va_A ws sz)) 0 0 (va_A ws sz) := by
  refine gw_head (by decide) (Nat.le_of_ble_eq_true rfl) (fun p e s m below meth c hsz hx hb hr hlocks hml hown hnm hts hK hN hP hD hS hA ls hl => ?_)
  have hown : s.vm.findClass R_M = some m.cls := hown
  have hT : ∀ w ∈ wG, w ∈ Cond.code y_M_addRow b_M_addRow 9 none :: wG := gd_t _
  have hF : CallFix p m c b_M_addRow 9 s ([.ref (A 0), .int x, .int y, .long v] : List Value).toArray (Cond.code y_M_addRow b_M_addRow 9 none :: wG) R_M := ⟨hx, hb, hml, hown, hts⟩
  have hl : lv_has ls 9 [(0, .ref (A 0)), (1, .int x), (2, .int y), (3, .long v)] := hl
  have hi1 := (lm_x1_tm hx0 hy0).2 (lm_x1_nz hxy)
  have hyx : ¬ (y = 0 ∧ x = 0) := fun q => hxy ⟨q.2, q.1⟩
  have hk1 := (lm_x1_tm hy0 hx0).2 (lm_x1_nz hyx)
  have hfr : gF (b + 3) (b + 4) ws ws := gF.rf
  refine lv_iload_n hx hb d_M_addRow_0 rfl (lv_at hl 1 rfl) ?_
  refine lv_if_ne (tgt := 49) hx hb d_M_addRow_1 (by decide) (fun c1 => ?_) (fun c1 => ?_)
  · have mg_58 : ∀ (H : Heap) (locs : List Loc), va_P D classes ws H → va_D (va_A ws sz) ws → va_S (va_A ws sz) s.heap H locs → W p l e ({ frames := 2, cells := 0, slots := 0, locals := 20 } : Room) s m ([.ref (A 0), .int x, .int y, .long v] : List Value).toArray below meth c H locs 0 0 (MQ below (va_Qv (fun w => (∃ F, w[b + 3]? = some (A 3, .inl (cJ, 100, .inr (.inl F))) ∧ lm_ag N F (lm_addM X x y v)) ∧ gF (b + 3) (b + 4) ws w) (gw_B D classes (gT cJ cI cZ cS) ws sz) (va_A ws sz)) ([.ref (A 0), .int x, .int y, .long v] : List Value).toArray s 0 0 (va_A ws sz)) (F0 m 58 ls [.int (lm_x1 x y)]) := by
      intro H locs hP hD hS
      refine gw_ci0 (gc_M_80 (As := [.int (lm_x1 x y)]) (rest := []) hF hT (c_M_at (lm_x1_tm hx0 hy0).1 (lm_x1_nz hxy)) ⟨(Nat.le_of_ble_eq_true rfl), (Nat.le_of_ble_eq_true rfl)⟩ rfl rfl hK hN hP hD rfl hl.1 rfl (Nat.le_of_ble_eq_true rfl) d_M_addRow_58 ⟨(Nat.le_of_ble_eq_true rfl), (Nat.le_of_ble_eq_true rfl)⟩) hD hS hA (fun r2 H locs e_r2 hP hD hS => ?_)
      subst e_r2
      refine lv_istore (lv' := [(5, .int (nI (lr_pl (lm_x1 x y)))), (0, .ref (A 0)), (1, .int x), (2, .int y), (3, .long v)]) hx hb d_M_addRow_61 hl (by decide) rfl (fun ls hl => ?_)
      have mg_72 : ∀ (H : Heap) (locs : List Loc), va_P D classes ws H → va_D (va_A ws sz) ws → va_S (va_A ws sz) s.heap H locs → W p l e ({ frames := 2, cells := 0, slots := 0, locals := 20 } : Room) s m ([.ref (A 0), .int x, .int y, .long v] : List Value).toArray below meth c H locs 0 0 (MQ below (va_Qv (fun w => (∃ F, w[b + 3]? = some (A 3, .inl (cJ, 100, .inr (.inl F))) ∧ lm_ag N F (lm_addM X x y v)) ∧ gF (b + 3) (b + 4) ws w) (gw_B D classes (gT cJ cI cZ cS) ws sz) (va_A ws sz)) ([.ref (A 0), .int x, .int y, .long v] : List Value).toArray s 0 0 (va_A ws sz)) (F0 m 72 ls [.int (lm_x1 y x)]) := by
        intro H locs hP hD hS
        refine gw_ci0 (gc_M_80 (As := [.int (lm_x1 y x)]) (rest := []) hF hT (c_M_at (lm_x1_tm hy0 hx0).1 (lm_x1_nz hyx)) ⟨(Nat.le_of_ble_eq_true rfl), (Nat.le_of_ble_eq_true rfl)⟩ rfl rfl hK hN hP hD rfl hl.1 rfl (Nat.le_of_ble_eq_true rfl) d_M_addRow_72 ⟨(Nat.le_of_ble_eq_true rfl), (Nat.le_of_ble_eq_true rfl)⟩) hD hS hA (fun r3 H locs e_r3 hP hD hS => ?_)
        subst e_r3
        refine lv_istore (lv' := [(6, .int (nI (lr_pl (lm_x1 y x)))), (5, .int (nI (lr_pl (lm_x1 x y)))), (0, .ref (A 0)), (1, .int x), (2, .int y), (3, .long v)]) hx hb d_M_addRow_75 hl (by decide) rfl (fun ls hl => ?_)
        have mg_94 : ∀ (H : Heap) (locs : List Loc), va_P D classes ws H → va_D (va_A ws sz) ws → va_S (va_A ws sz) s.heap H locs → W p l e ({ frames := 2, cells := 0, slots := 0, locals := 20 } : Room) s m ([.ref (A 0), .int x, .int y, .long v] : List Value).toArray below meth c H locs 0 0 (MQ below (va_Qv (fun w => (∃ F, w[b + 3]? = some (A 3, .inl (cJ, 100, .inr (.inl F))) ∧ lm_ag N F (lm_addM X x y v)) ∧ gF (b + 3) (b + 4) ws w) (gw_B D classes (gT cJ cI cZ cS) ws sz) (va_A ws sz)) ([.ref (A 0), .int x, .int y, .long v] : List Value).toArray s 0 0 (va_A ws sz)) (F0 m 94 ls [.long (lm_av x y v)]) := by
          intro H locs hP hD hS
          refine lv_lstore (lv' := [(7, .long (lm_av x y v)), (6, .int (nI (lr_pl (lm_x1 y x)))), (5, .int (nI (lr_pl (lm_x1 x y)))), (0, .ref (A 0)), (1, .int x), (2, .int y), (3, .long v)]) hx hb d_M_addRow_94 hl (by decide) rfl (fun ls hl => ?_)
          refine lv_lload hx hb d_M_addRow_96 (lv_at hl 0 rfl) ?_
          refine lv_aload_n hx hb d_M_addRow_98 rfl (lv_at hl 3 rfl) ?_
          refine gf_M_17 hF hT hK hP m0 rfl d_M_addRow_99 ?_
          refine lv_bipush (v := nI 10) hx hb d_M_addRow_102 (by decide) ?_
          refine lv_iload hx hb d_M_addRow_104 (lv_at hl 2 rfl) ?_
          refine lv_imul hx hb d_M_addRow_106 ?_
          refine gx_i (y := nI (10 * (lr_pl (lm_x1 x y)))) (pk_mul _ _) ?_
          refine lv_iload hx hb d_M_addRow_107 (lv_at hl 1 rfl) ?_
          refine lv_iadd hx hb d_M_addRow_109 ?_
          refine gx_i (y := nI ((10 * (lr_pl (lm_x1 x y))) + (lr_pl (lm_x1 y x)))) (nI_add _ _) ?_
          refine g_lald (t0 := 0) (k := (10 * (lr_pl (lm_x1 x y))) + (lr_pl (lm_x1 y x))) hx hb hK hP mD rfl (by omega) (by omega) d_M_addRow_110 ?_
          refine gx_lge (tgt := 145) hx hb d_M_addRow_111 d_M_addRow_112 (by decide) (fun c4 => ?_) (fun c4 => ?_)
          · exact gw_vret hx hb hr hlocks hK hP hD hS (Nat.le_of_ble_eq_true rfl) (Nat.le_of_ble_eq_true rfl) d_M_addRow_145 ⟨⟨_, mD, (show lm_adD _ _ _ _ = _ from if_pos c4) ▸ lm_ag_ad hN5 hi1 hk1 hX⟩, hfr⟩
          · refine lv_aload_n hx hb d_M_addRow_115 rfl (lv_at hl 3 rfl) ?_
            refine gf_M_17 hF hT hK hP m0 rfl d_M_addRow_116 ?_
            refine lv_bipush (v := nI 10) hx hb d_M_addRow_119 (by decide) ?_
            refine lv_iload hx hb d_M_addRow_121 (lv_at hl 2 rfl) ?_
            refine lv_imul hx hb d_M_addRow_123 ?_
            refine gx_i (y := nI (10 * (lr_pl (lm_x1 x y)))) (pk_mul _ _) ?_
            refine lv_iload hx hb d_M_addRow_124 (lv_at hl 1 rfl) ?_
            refine lv_iadd hx hb d_M_addRow_126 ?_
            refine gx_i (y := nI ((10 * (lr_pl (lm_x1 x y))) + (lr_pl (lm_x1 y x)))) (nI_add _ _) ?_
            refine lv_lload hx hb d_M_addRow_127 (lv_at hl 0 rfl) ?_
            refine g_last (t0 := 0) (k := (10 * (lr_pl (lm_x1 x y))) + (lr_pl (lm_x1 y x))) hx hb hK hP hD hS mD rfl (by omega) (by omega) d_M_addRow_129 (fun w H locs mD hf hP hD hS => ?_)
            have m0 := hf.at m0 (by omega)
            have hfr := hfr.in hf (by omega) (by omega)
            refine lv_aload_n hx hb d_M_addRow_130 rfl (lv_at hl 3 rfl) ?_
            refine gf_M_17 hF hT hK hP m0 rfl d_M_addRow_131 ?_
            refine lv_bipush (v := nI 10) hx hb d_M_addRow_134 (by decide) ?_
            refine lv_iload hx hb d_M_addRow_136 (lv_at hl 1 rfl) ?_
            refine lv_imul hx hb d_M_addRow_138 ?_
            refine gx_i (y := nI (10 * (lr_pl (lm_x1 y x)))) (pk_mul _ _) ?_
            refine lv_iload hx hb d_M_addRow_139 (lv_at hl 2 rfl) ?_
            refine lv_iadd hx hb d_M_addRow_141 ?_
            refine gx_i (y := nI ((10 * (lr_pl (lm_x1 y x))) + (lr_pl (lm_x1 x y)))) (nI_add _ _) ?_
            refine lv_lload hx hb d_M_addRow_142 (lv_at hl 0 rfl) ?_
            refine g_last (t0 := 0) (k := (10 * (lr_pl (lm_x1 y x))) + (lr_pl (lm_x1 x y))) hx hb hK hP hD hS mD rfl (by omega) (by omega) d_M_addRow_144 (fun w H locs mD hf hP hD hS => ?_)
            have m0 := hf.at m0 (by omega)
            have hfr := hfr.in hf (by omega) (by omega)
            exact gw_vret hx hb hr hlocks hK hP hD hS (Nat.le_of_ble_eq_true rfl) (Nat.le_of_ble_eq_true rfl) d_M_addRow_145 ⟨⟨_, mD, (show lm_adD _ _ _ _ = _ from if_neg c4) ▸ lm_ag_ad hN5 hi1 hk1 hX⟩, hfr⟩
        refine lv_iload_n hx hb d_M_addRow_77 rfl (lv_at hl 3 rfl) ?_
        refine lv_if_eq (tgt := 85) hx hb d_M_addRow_78 (by decide) (fun c5 => ?_) (fun c5 => ?_)
        · exact absurd c5 c1
        · refine lv_iload_n hx hb d_M_addRow_81 rfl (lv_at hl 4 rfl) ?_
          refine lv_if_ne (tgt := 93) hx hb d_M_addRow_82 (by decide) (fun c6 => ?_) (fun c6 => ?_)
          · refine lv_lload_n hx hb d_M_addRow_93 rfl (lv_at hl 5 rfl) ?_
            exact gx_l (y := lm_av x y v) (by unfold lm_av; simp [c5, c6]) (mg_94 _ _ hP hD hS)
          · refine lv_ldc2 (v := (2 : Int64)) hx hb hown (hts _ (hT _ wm_3_202)) d_M_addRow_85 ?_
            refine lv_lload_n hx hb d_M_addRow_88 rfl (lv_at hl 5 rfl) ?_
            refine lv_lmul hx hb d_M_addRow_89 ?_
            refine lv_goto (tgt := 94) hx hb d_M_addRow_90 (by decide) ?_
            exact gx_l (y := lm_av x y v) (by unfold lm_av; simp [c5, c6]) (mg_94 _ _ hP hD hS)
      refine lv_iload_n hx hb d_M_addRow_63 rfl (lv_at hl 3 rfl) ?_
      refine lv_if_ne (tgt := 71) hx hb d_M_addRow_64 (by decide) (fun c7 => ?_) (fun c7 => ?_)
      · refine lv_iload_n hx hb d_M_addRow_71 rfl (lv_at hl 3 rfl) ?_
        exact gx_i (y := lm_x1 y x) (by unfold lm_x1; simp [c7]) (mg_72 _ _ hP hD hS)
      · refine lv_iload_n hx hb d_M_addRow_67 rfl (lv_at hl 2 rfl) ?_
        refine lv_goto (tgt := 72) hx hb d_M_addRow_68 (by decide) ?_
        exact gx_i (y := lm_x1 y x) (by unfold lm_x1; simp [c7]) (mg_72 _ _ hP hD hS)
    refine lv_iload_n hx hb d_M_addRow_49 rfl (lv_at hl 1 rfl) ?_
    refine lv_if_ne (tgt := 57) hx hb d_M_addRow_50 (by decide) (fun c8 => ?_) (fun c8 => ?_)
    · refine lv_iload_n hx hb d_M_addRow_57 rfl (lv_at hl 1 rfl) ?_
      exact gx_i (y := lm_x1 x y) (by unfold lm_x1; simp [c8]) (mg_58 _ _ hP hD hS)
    · exact absurd c8 c1
  · refine lv_iload_n hx hb d_M_addRow_4 rfl (lv_at hl 2 rfl) ?_
    refine lv_if_ne (tgt := 49) hx hb d_M_addRow_5 (by decide) (fun c9 => ?_) (fun c9 => ?_)
    · have mg_58 : ∀ (H : Heap) (locs : List Loc), va_P D classes ws H → va_D (va_A ws sz) ws → va_S (va_A ws sz) s.heap H locs → W p l e ({ frames := 2, cells := 0, slots := 0, locals := 20 } : Room) s m ([.ref (A 0), .int x, .int y, .long v] : List Value).toArray below meth c H locs 0 0 (MQ below (va_Qv (fun w => (∃ F, w[b + 3]? = some (A 3, .inl (cJ, 100, .inr (.inl F))) ∧ lm_ag N F (lm_addM X x y v)) ∧ gF (b + 3) (b + 4) ws w) (gw_B D classes (gT cJ cI cZ cS) ws sz) (va_A ws sz)) ([.ref (A 0), .int x, .int y, .long v] : List Value).toArray s 0 0 (va_A ws sz)) (F0 m 58 ls [.int (lm_x1 x y)]) := by
        intro H locs hP hD hS
        refine gw_ci0 (gc_M_80 (As := [.int (lm_x1 x y)]) (rest := []) hF hT (c_M_at (lm_x1_tm hx0 hy0).1 (lm_x1_nz hxy)) ⟨(Nat.le_of_ble_eq_true rfl), (Nat.le_of_ble_eq_true rfl)⟩ rfl rfl hK hN hP hD rfl hl.1 rfl (Nat.le_of_ble_eq_true rfl) d_M_addRow_58 ⟨(Nat.le_of_ble_eq_true rfl), (Nat.le_of_ble_eq_true rfl)⟩) hD hS hA (fun r10 H locs e_r10 hP hD hS => ?_)
        subst e_r10
        refine lv_istore (lv' := [(5, .int (nI (lr_pl (lm_x1 x y)))), (0, .ref (A 0)), (1, .int x), (2, .int y), (3, .long v)]) hx hb d_M_addRow_61 hl (by decide) rfl (fun ls hl => ?_)
        have mg_72 : ∀ (H : Heap) (locs : List Loc), va_P D classes ws H → va_D (va_A ws sz) ws → va_S (va_A ws sz) s.heap H locs → W p l e ({ frames := 2, cells := 0, slots := 0, locals := 20 } : Room) s m ([.ref (A 0), .int x, .int y, .long v] : List Value).toArray below meth c H locs 0 0 (MQ below (va_Qv (fun w => (∃ F, w[b + 3]? = some (A 3, .inl (cJ, 100, .inr (.inl F))) ∧ lm_ag N F (lm_addM X x y v)) ∧ gF (b + 3) (b + 4) ws w) (gw_B D classes (gT cJ cI cZ cS) ws sz) (va_A ws sz)) ([.ref (A 0), .int x, .int y, .long v] : List Value).toArray s 0 0 (va_A ws sz)) (F0 m 72 ls [.int (lm_x1 y x)]) := by
          intro H locs hP hD hS
          refine gw_ci0 (gc_M_80 (As := [.int (lm_x1 y x)]) (rest := []) hF hT (c_M_at (lm_x1_tm hy0 hx0).1 (lm_x1_nz hyx)) ⟨(Nat.le_of_ble_eq_true rfl), (Nat.le_of_ble_eq_true rfl)⟩ rfl rfl hK hN hP hD rfl hl.1 rfl (Nat.le_of_ble_eq_true rfl) d_M_addRow_72 ⟨(Nat.le_of_ble_eq_true rfl), (Nat.le_of_ble_eq_true rfl)⟩) hD hS hA (fun r11 H locs e_r11 hP hD hS => ?_)
          subst e_r11
          refine lv_istore (lv' := [(6, .int (nI (lr_pl (lm_x1 y x)))), (5, .int (nI (lr_pl (lm_x1 x y)))), (0, .ref (A 0)), (1, .int x), (2, .int y), (3, .long v)]) hx hb d_M_addRow_75 hl (by decide) rfl (fun ls hl => ?_)
          have mg_94 : ∀ (H : Heap) (locs : List Loc), va_P D classes ws H → va_D (va_A ws sz) ws → va_S (va_A ws sz) s.heap H locs → W p l e ({ frames := 2, cells := 0, slots := 0, locals := 20 } : Room) s m ([.ref (A 0), .int x, .int y, .long v] : List Value).toArray below meth c H locs 0 0 (MQ below (va_Qv (fun w => (∃ F, w[b + 3]? = some (A 3, .inl (cJ, 100, .inr (.inl F))) ∧ lm_ag N F (lm_addM X x y v)) ∧ gF (b + 3) (b + 4) ws w) (gw_B D classes (gT cJ cI cZ cS) ws sz) (va_A ws sz)) ([.ref (A 0), .int x, .int y, .long v] : List Value).toArray s 0 0 (va_A ws sz)) (F0 m 94 ls [.long (lm_av x y v)]) := by
            intro H locs hP hD hS
            refine lv_lstore (lv' := [(7, .long (lm_av x y v)), (6, .int (nI (lr_pl (lm_x1 y x)))), (5, .int (nI (lr_pl (lm_x1 x y)))), (0, .ref (A 0)), (1, .int x), (2, .int y), (3, .long v)]) hx hb d_M_addRow_94 hl (by decide) rfl (fun ls hl => ?_)
            refine lv_lload hx hb d_M_addRow_96 (lv_at hl 0 rfl) ?_
            refine lv_aload_n hx hb d_M_addRow_98 rfl (lv_at hl 3 rfl) ?_
            refine gf_M_17 hF hT hK hP m0 rfl d_M_addRow_99 ?_
            refine lv_bipush (v := nI 10) hx hb d_M_addRow_102 (by decide) ?_
            refine lv_iload hx hb d_M_addRow_104 (lv_at hl 2 rfl) ?_
            refine lv_imul hx hb d_M_addRow_106 ?_
            refine gx_i (y := nI (10 * (lr_pl (lm_x1 x y)))) (pk_mul _ _) ?_
            refine lv_iload hx hb d_M_addRow_107 (lv_at hl 1 rfl) ?_
            refine lv_iadd hx hb d_M_addRow_109 ?_
            refine gx_i (y := nI ((10 * (lr_pl (lm_x1 x y))) + (lr_pl (lm_x1 y x)))) (nI_add _ _) ?_
            refine g_lald (t0 := 0) (k := (10 * (lr_pl (lm_x1 x y))) + (lr_pl (lm_x1 y x))) hx hb hK hP mD rfl (by omega) (by omega) d_M_addRow_110 ?_
            refine gx_lge (tgt := 145) hx hb d_M_addRow_111 d_M_addRow_112 (by decide) (fun c12 => ?_) (fun c12 => ?_)
            · exact gw_vret hx hb hr hlocks hK hP hD hS (Nat.le_of_ble_eq_true rfl) (Nat.le_of_ble_eq_true rfl) d_M_addRow_145 ⟨⟨_, mD, (show lm_adD _ _ _ _ = _ from if_pos c12) ▸ lm_ag_ad hN5 hi1 hk1 hX⟩, hfr⟩
            · refine lv_aload_n hx hb d_M_addRow_115 rfl (lv_at hl 3 rfl) ?_
              refine gf_M_17 hF hT hK hP m0 rfl d_M_addRow_116 ?_
              refine lv_bipush (v := nI 10) hx hb d_M_addRow_119 (by decide) ?_
              refine lv_iload hx hb d_M_addRow_121 (lv_at hl 2 rfl) ?_
              refine lv_imul hx hb d_M_addRow_123 ?_
              refine gx_i (y := nI (10 * (lr_pl (lm_x1 x y)))) (pk_mul _ _) ?_
              refine lv_iload hx hb d_M_addRow_124 (lv_at hl 1 rfl) ?_
              refine lv_iadd hx hb d_M_addRow_126 ?_
              refine gx_i (y := nI ((10 * (lr_pl (lm_x1 x y))) + (lr_pl (lm_x1 y x)))) (nI_add _ _) ?_
              refine lv_lload hx hb d_M_addRow_127 (lv_at hl 0 rfl) ?_
              refine g_last (t0 := 0) (k := (10 * (lr_pl (lm_x1 x y))) + (lr_pl (lm_x1 y x))) hx hb hK hP hD hS mD rfl (by omega) (by omega) d_M_addRow_129 (fun w H locs mD hf hP hD hS => ?_)
              have m0 := hf.at m0 (by omega)
              have hfr := hfr.in hf (by omega) (by omega)
              refine lv_aload_n hx hb d_M_addRow_130 rfl (lv_at hl 3 rfl) ?_
              refine gf_M_17 hF hT hK hP m0 rfl d_M_addRow_131 ?_
              refine lv_bipush (v := nI 10) hx hb d_M_addRow_134 (by decide) ?_
              refine lv_iload hx hb d_M_addRow_136 (lv_at hl 1 rfl) ?_
              refine lv_imul hx hb d_M_addRow_138 ?_
              refine gx_i (y := nI (10 * (lr_pl (lm_x1 y x)))) (pk_mul _ _) ?_
              refine lv_iload hx hb d_M_addRow_139 (lv_at hl 2 rfl) ?_
              refine lv_iadd hx hb d_M_addRow_141 ?_
              refine gx_i (y := nI ((10 * (lr_pl (lm_x1 y x))) + (lr_pl (lm_x1 x y)))) (nI_add _ _) ?_
              refine lv_lload hx hb d_M_addRow_142 (lv_at hl 0 rfl) ?_
              refine g_last (t0 := 0) (k := (10 * (lr_pl (lm_x1 y x))) + (lr_pl (lm_x1 x y))) hx hb hK hP hD hS mD rfl (by omega) (by omega) d_M_addRow_144 (fun w H locs mD hf hP hD hS => ?_)
              have m0 := hf.at m0 (by omega)
              have hfr := hfr.in hf (by omega) (by omega)
              exact gw_vret hx hb hr hlocks hK hP hD hS (Nat.le_of_ble_eq_true rfl) (Nat.le_of_ble_eq_true rfl) d_M_addRow_145 ⟨⟨_, mD, (show lm_adD _ _ _ _ = _ from if_neg c12) ▸ lm_ag_ad hN5 hi1 hk1 hX⟩, hfr⟩
          refine lv_iload_n hx hb d_M_addRow_77 rfl (lv_at hl 3 rfl) ?_
          refine lv_if_eq (tgt := 85) hx hb d_M_addRow_78 (by decide) (fun c13 => ?_) (fun c13 => ?_)
          · refine lv_ldc2 (v := (2 : Int64)) hx hb hown (hts _ (hT _ wm_3_202)) d_M_addRow_85 ?_
            refine lv_lload_n hx hb d_M_addRow_88 rfl (lv_at hl 5 rfl) ?_
            refine lv_lmul hx hb d_M_addRow_89 ?_
            refine lv_goto (tgt := 94) hx hb d_M_addRow_90 (by decide) ?_
            exact gx_l (y := lm_av x y v) (by unfold lm_av; simp [c13]) (mg_94 _ _ hP hD hS)
          · exact absurd c1 c13
        refine lv_iload_n hx hb d_M_addRow_63 rfl (lv_at hl 3 rfl) ?_
        refine lv_if_ne (tgt := 71) hx hb d_M_addRow_64 (by decide) (fun c14 => ?_) (fun c14 => ?_)
        · refine lv_iload_n hx hb d_M_addRow_71 rfl (lv_at hl 3 rfl) ?_
          exact gx_i (y := lm_x1 y x) (by unfold lm_x1; simp [c14]) (mg_72 _ _ hP hD hS)
        · refine lv_iload_n hx hb d_M_addRow_67 rfl (lv_at hl 2 rfl) ?_
          refine lv_goto (tgt := 72) hx hb d_M_addRow_68 (by decide) ?_
          exact gx_i (y := lm_x1 y x) (by unfold lm_x1; simp [c14]) (mg_72 _ _ hP hD hS)
      refine lv_iload_n hx hb d_M_addRow_49 rfl (lv_at hl 1 rfl) ?_
      refine lv_if_ne (tgt := 57) hx hb d_M_addRow_50 (by decide) (fun c15 => ?_) (fun c15 => ?_)
      · exact absurd c1 c15
      · refine lv_iload_n hx hb d_M_addRow_53 rfl (lv_at hl 2 rfl) ?_
        refine lv_goto (tgt := 58) hx hb d_M_addRow_54 (by decide) ?_
        exact gx_i (y := lm_x1 x y) (by unfold lm_x1; simp [c15]) (mg_58 _ _ hP hD hS)
    · exact absurd ⟨c1, c9⟩ hxy

set_option maxHeartbeats 4000000 in
set_option maxRecDepth 100000 in
theorem c_M_boundOf {l : Launch} {D : va_G} {cJ cI cZ cS : ClassId} {ws : va_W} {sz : Nat} {b N nm : Nat} {A : Nat → Nat} {th : Int32} {D0 : Nat → Int64} (m0 : ws[b]? = some (A 0, .inr (3, [.int th, .int (nI N), .ref (A 1), .ref (A 2), .ref (A 3), .ref (A 4), .ref (A 5), .ref (A 6), .int (nI nm), .ref (A 7), .ref (A 8), .ref (A 9), .ref (A 10)]))) (mD : ws[b + 3]? = some (A 3, .inl (cJ, 100, .inr (.inl D0)))) (hN1 : 1 ≤ N) (hN5 : N ≤ 5) {X : Nat → Nat → Int64} (hX : lm_ag N D0 X) {x y : Int32} (hx0 : lr_tm x (2 * N)) (hy0 : lr_tm y (2 * N)) : Met l y_M_boundOf w_M_boundOf ({ frames := 2, cells := 0, slots := 0, locals := 20 } : Room) (gw_Pc D classes (gT cJ cI cZ cS) [.ref (A 0), .int x, .int y] ws sz) (va_Ql (fun r w => (r = lm_bd X x y) ∧ w = ws) (gw_B D classes (gT cJ cI cZ cS) ws sz) (va_A ws sz)) 0 0 (va_A ws sz) := by
  refine gw_head (by decide) (Nat.le_of_ble_eq_true rfl) (fun p e s m below meth c hsz hx hb hr hlocks hml hown hnm hts hK hN hP hD hS hA ls hl => ?_)
  have hown : s.vm.findClass R_M = some m.cls := hown
  have hT : ∀ w ∈ wG, w ∈ Cond.code y_M_boundOf b_M_boundOf 5 (some .long) :: wG := gd_t _
  have hF : CallFix p m c b_M_boundOf 5 s ([.ref (A 0), .int x, .int y] : List Value).toArray (Cond.code y_M_boundOf b_M_boundOf 5 (some .long) :: wG) R_M := ⟨hx, hb, hml, hown, hts⟩
  have hl : lv_has ls 5 [(0, .ref (A 0)), (1, .int x), (2, .int y)] := hl
  have hpx := hx0.2
  have hpy := hy0.2
  refine lv_iload_n hx hb d_M_boundOf_0 rfl (lv_at hl 1 rfl) ?_
  refine lv_if_ne (tgt := 8) hx hb d_M_boundOf_1 (by decide) (fun c1 => ?_) (fun c1 => ?_)
  · refine lv_iload_n hx hb d_M_boundOf_8 rfl (lv_at hl 1 rfl) ?_
    refine lv_iload_n hx hb d_M_boundOf_9 rfl (lv_at hl 2 rfl) ?_
    refine lv_ineg hx hb d_M_boundOf_10 ?_
    refine lv_icmp_ne (tgt := 16) hx hb d_M_boundOf_11 (by decide) (fun c2 => ?_) (fun c2 => ?_)
    · refine lv_iload_n hx hb d_M_boundOf_16 rfl (lv_at hl 1 rfl) ?_
      refine lv_if_eq (tgt := 24) hx hb d_M_boundOf_17 (by decide) (fun c3 => ?_) (fun c3 => ?_)
      · exact absurd c3 c1
      · refine lv_iload_n hx hb d_M_boundOf_20 rfl (lv_at hl 2 rfl) ?_
        refine lv_if_ne (tgt := 65) hx hb d_M_boundOf_21 (by decide) (fun c4 => ?_) (fun c4 => ?_)
        · refine lv_aload_n hx hb d_M_boundOf_65 rfl (lv_at hl 0 rfl) ?_
          refine gf_M_17 hF hT hK hP m0 rfl d_M_boundOf_66 ?_
          refine lv_bipush (v := nI 10) hx hb d_M_boundOf_69 (by decide) ?_
          refine lv_iload_n hx hb d_M_boundOf_71 rfl (lv_at hl 1 rfl) ?_
          refine gw_ci0 (gc_M_80 (As := [.int x]) (rest := [.int (nI 10), .ref (A 3)]) hF hT (c_M_at hx0.1 ‹¬ x = 0›) ⟨(Nat.le_of_ble_eq_true rfl), (Nat.le_of_ble_eq_true rfl)⟩ rfl rfl hK hN hP hD rfl hl.1 rfl (Nat.le_of_ble_eq_true rfl) d_M_boundOf_72 ⟨(Nat.le_of_ble_eq_true rfl), (Nat.le_of_ble_eq_true rfl)⟩) hD hS hA (fun r5 H locs e_r5 hP hD hS => ?_)
          subst e_r5
          refine lv_imul hx hb d_M_boundOf_75 ?_
          refine gx_i (y := nI (10 * (lr_pl x))) (pk_mul _ _) ?_
          refine lv_iload_n hx hb d_M_boundOf_76 rfl (lv_at hl 2 rfl) ?_
          refine gw_ci0 (gc_M_80 (As := [.int y]) (rest := [.int (nI (10 * (lr_pl x))), .ref (A 3)]) hF hT (c_M_at hy0.1 ‹¬ y = 0›) ⟨(Nat.le_of_ble_eq_true rfl), (Nat.le_of_ble_eq_true rfl)⟩ rfl rfl hK hN hP hD rfl hl.1 rfl (Nat.le_of_ble_eq_true rfl) d_M_boundOf_77 ⟨(Nat.le_of_ble_eq_true rfl), (Nat.le_of_ble_eq_true rfl)⟩) hD hS hA (fun r6 H locs e_r6 hP hD hS => ?_)
          subst e_r6
          refine lv_iadd hx hb d_M_boundOf_80 ?_
          refine gx_i (y := nI ((10 * (lr_pl x)) + (lr_pl y))) (nI_add _ _) ?_
          refine g_lald (t0 := 0) (k := (10 * (lr_pl x)) + (lr_pl y)) hx hb hK hP mD rfl (by have := hpx ‹¬ x = 0›; have := hpy ‹¬ y = 0›; omega) (by omega) d_M_boundOf_81 ?_
          exact gw_lret hx hb hr hlocks hK hP hD hS (Nat.le_of_ble_eq_true rfl) (Nat.le_of_ble_eq_true rfl) d_M_boundOf_82 ⟨by unfold lm_bd; rw [if_neg c2, if_neg c1, if_neg c4]; exact hX _ _ (hx0.2 c1) (hy0.2 c4), rfl⟩
        · refine lv_aload_n hx hb d_M_boundOf_24 rfl (lv_at hl 0 rfl) ?_
          refine gf_M_17 hF hT hK hP m0 rfl d_M_boundOf_25 ?_
          refine lv_bipush (v := nI 11) hx hb d_M_boundOf_28 (by decide) ?_
          refine lv_iload_n hx hb d_M_boundOf_30 rfl (lv_at hl 1 rfl) ?_
          refine lv_if_ne (tgt := 38) hx hb d_M_boundOf_31 (by decide) (fun c7 => ?_) (fun c7 => ?_)
          · refine lv_iload_n hx hb d_M_boundOf_38 rfl (lv_at hl 1 rfl) ?_
            refine gw_ci0 (gc_M_80 (As := [.int x]) (rest := [.int (nI 11), .ref (A 3)]) hF hT (c_M_at hx0.1 ‹¬ x = 0›) ⟨(Nat.le_of_ble_eq_true rfl), (Nat.le_of_ble_eq_true rfl)⟩ rfl rfl hK hN hP hD rfl hl.1 rfl (Nat.le_of_ble_eq_true rfl) d_M_boundOf_39 ⟨(Nat.le_of_ble_eq_true rfl), (Nat.le_of_ble_eq_true rfl)⟩) hD hS hA (fun r8 H locs e_r8 hP hD hS => ?_)
            subst e_r8
            refine lv_imul hx hb d_M_boundOf_42 ?_
            refine gx_i (y := nI (11 * (lr_pl x))) (pk_mul _ _) ?_
            refine g_lald (t0 := 0) (k := 11 * (lr_pl x)) hx hb hK hP mD rfl (by first | (have := hpx ‹¬ x = 0›; omega) | (have := hpy ‹¬ y = 0›; omega)) (by omega) d_M_boundOf_43 ?_
            refine lv_lstore_n (lv' := [(3, .long (D0 (11 * (lr_pl x)))), (0, .ref (A 0)), (1, .int x), (2, .int y)]) hx hb d_M_boundOf_44 rfl hl (by decide) rfl (fun ls hl => ?_)
            refine lv_lload_n hx hb d_M_boundOf_45 rfl (lv_at hl 0 rfl) ?_
            refine lv_ldc2 (v := lr_E) hx hb hown (hts _ (hT _ wm_3_124)) d_M_boundOf_46 ?_
            refine gx_lne (tgt := 59) hx hb d_M_boundOf_49 d_M_boundOf_50 (by decide) (fun c9 => ?_) (fun c9 => ?_)
            · refine lv_lload_n hx hb d_M_boundOf_59 rfl (lv_at hl 0 rfl) ?_
              refine lv_ldc2 (v := (2 : Int64)) hx hb hown (hts _ (hT _ wm_3_202)) d_M_boundOf_60 ?_
              refine lv_ldiv hx hb d_M_boundOf_63 (by decide) ?_
              exact gw_lret hx hb hr hlocks hK hP hD hS (Nat.le_of_ble_eq_true rfl) (Nat.le_of_ble_eq_true rfl) d_M_boundOf_64 ⟨by unfold lm_bd lm_hf; rw [if_neg c2, if_neg c1, if_pos c4, ← hX.dg (hx0.2 c1)]; simp [c9], rfl⟩
            · refine lv_ldc2 (v := lr_E) hx hb hown (hts _ (hT _ wm_3_124)) d_M_boundOf_53 ?_
              refine lv_goto (tgt := 64) hx hb d_M_boundOf_56 (by decide) ?_
              exact gw_lret hx hb hr hlocks hK hP hD hS (Nat.le_of_ble_eq_true rfl) (Nat.le_of_ble_eq_true rfl) d_M_boundOf_64 ⟨by unfold lm_bd lm_hf; rw [if_neg c2, if_neg c1, if_pos c4, ← hX.dg (hx0.2 c1)]; simp [c9], rfl⟩
          · exact absurd c7 c3
    · refine lv_lconst (v := 0) hx hb d_M_boundOf_14 rfl ?_
      exact gw_lret hx hb hr hlocks hK hP hD hS (Nat.le_of_ble_eq_true rfl) (Nat.le_of_ble_eq_true rfl) d_M_boundOf_15 ⟨(if_pos c2).symm, rfl⟩
  · refine lv_iload_n hx hb d_M_boundOf_4 rfl (lv_at hl 2 rfl) ?_
    refine lv_if_eq (tgt := 14) hx hb d_M_boundOf_5 (by decide) (fun c10 => ?_) (fun c10 => ?_)
    · refine lv_lconst (v := 0) hx hb d_M_boundOf_14 rfl ?_
      exact gw_lret hx hb hr hlocks hK hP hD hS (Nat.le_of_ble_eq_true rfl) (Nat.le_of_ble_eq_true rfl) d_M_boundOf_15 ⟨(if_pos (by rw [c1, c10]; decide)).symm, rfl⟩
    · refine lv_iload_n hx hb d_M_boundOf_8 rfl (lv_at hl 1 rfl) ?_
      refine lv_iload_n hx hb d_M_boundOf_9 rfl (lv_at hl 2 rfl) ?_
      refine lv_ineg hx hb d_M_boundOf_10 ?_
      refine lv_icmp_ne (tgt := 16) hx hb d_M_boundOf_11 (by decide) (fun c11 => ?_) (fun c11 => ?_)
      · refine lv_iload_n hx hb d_M_boundOf_16 rfl (lv_at hl 1 rfl) ?_
        refine lv_if_eq (tgt := 24) hx hb d_M_boundOf_17 (by decide) (fun c12 => ?_) (fun c12 => ?_)
        · refine lv_aload_n hx hb d_M_boundOf_24 rfl (lv_at hl 0 rfl) ?_
          refine gf_M_17 hF hT hK hP m0 rfl d_M_boundOf_25 ?_
          refine lv_bipush (v := nI 11) hx hb d_M_boundOf_28 (by decide) ?_
          refine lv_iload_n hx hb d_M_boundOf_30 rfl (lv_at hl 1 rfl) ?_
          refine lv_if_ne (tgt := 38) hx hb d_M_boundOf_31 (by decide) (fun c13 => ?_) (fun c13 => ?_)
          · exact absurd c12 c13
          · refine lv_iload_n hx hb d_M_boundOf_34 rfl (lv_at hl 2 rfl) ?_
            refine lv_goto (tgt := 39) hx hb d_M_boundOf_35 (by decide) ?_
            refine gw_ci0 (gc_M_80 (As := [.int y]) (rest := [.int (nI 11), .ref (A 3)]) hF hT (c_M_at hy0.1 ‹¬ y = 0›) ⟨(Nat.le_of_ble_eq_true rfl), (Nat.le_of_ble_eq_true rfl)⟩ rfl rfl hK hN hP hD rfl hl.1 rfl (Nat.le_of_ble_eq_true rfl) d_M_boundOf_39 ⟨(Nat.le_of_ble_eq_true rfl), (Nat.le_of_ble_eq_true rfl)⟩) hD hS hA (fun r14 H locs e_r14 hP hD hS => ?_)
            subst e_r14
            refine lv_imul hx hb d_M_boundOf_42 ?_
            refine gx_i (y := nI (11 * (lr_pl y))) (pk_mul _ _) ?_
            refine g_lald (t0 := 0) (k := 11 * (lr_pl y)) hx hb hK hP mD rfl (by first | (have := hpx ‹¬ x = 0›; omega) | (have := hpy ‹¬ y = 0›; omega)) (by omega) d_M_boundOf_43 ?_
            refine lv_lstore_n (lv' := [(3, .long (D0 (11 * (lr_pl y)))), (0, .ref (A 0)), (1, .int x), (2, .int y)]) hx hb d_M_boundOf_44 rfl hl (by decide) rfl (fun ls hl => ?_)
            refine lv_lload_n hx hb d_M_boundOf_45 rfl (lv_at hl 0 rfl) ?_
            refine lv_ldc2 (v := lr_E) hx hb hown (hts _ (hT _ wm_3_124)) d_M_boundOf_46 ?_
            refine gx_lne (tgt := 59) hx hb d_M_boundOf_49 d_M_boundOf_50 (by decide) (fun c15 => ?_) (fun c15 => ?_)
            · refine lv_lload_n hx hb d_M_boundOf_59 rfl (lv_at hl 0 rfl) ?_
              refine lv_ldc2 (v := (2 : Int64)) hx hb hown (hts _ (hT _ wm_3_202)) d_M_boundOf_60 ?_
              refine lv_ldiv hx hb d_M_boundOf_63 (by decide) ?_
              exact gw_lret hx hb hr hlocks hK hP hD hS (Nat.le_of_ble_eq_true rfl) (Nat.le_of_ble_eq_true rfl) d_M_boundOf_64 ⟨by unfold lm_bd lm_hf; rw [if_neg c11, if_pos c1, ← hX.dg (hy0.2 c10)]; simp [c15], rfl⟩
            · refine lv_ldc2 (v := lr_E) hx hb hown (hts _ (hT _ wm_3_124)) d_M_boundOf_53 ?_
              refine lv_goto (tgt := 64) hx hb d_M_boundOf_56 (by decide) ?_
              exact gw_lret hx hb hr hlocks hK hP hD hS (Nat.le_of_ble_eq_true rfl) (Nat.le_of_ble_eq_true rfl) d_M_boundOf_64 ⟨by unfold lm_bd lm_hf; rw [if_neg c11, if_pos c1, ← hX.dg (hy0.2 c10)]; simp [c15], rfl⟩
        · exact absurd c1 c12
      · refine lv_lconst (v := 0) hx hb d_M_boundOf_14 rfl ?_
        exact gw_lret hx hb hr hlocks hK hP hD hS (Nat.le_of_ble_eq_true rfl) (Nat.le_of_ble_eq_true rfl) d_M_boundOf_15 ⟨(if_pos c11).symm, rfl⟩

set_option maxHeartbeats 4000000 in
set_option maxRecDepth 100000 in
theorem c_M_isFar {l : Launch} {D : va_G} {cJ cI cZ cS : ClassId} {ws : va_W} {sz : Nat} {b N nm : Nat} {A : Nat → Nat} {th : Int32} {D0 : Nat → Int64} (m0 : ws[b]? = some (A 0, .inr (3, [.int th, .int (nI N), .ref (A 1), .ref (A 2), .ref (A 3), .ref (A 4), .ref (A 5), .ref (A 6), .int (nI nm), .ref (A 7), .ref (A 8), .ref (A 9), .ref (A 10)]))) (mD : ws[b + 3]? = some (A 3, .inl (cJ, 100, .inr (.inl D0)))) (hN1 : 1 ≤ N) (hN5 : N ≤ 5) {X : Nat → Nat → Int64} (hX : lm_ag N D0 X) : Met l y_M_isFar w_M_isFar ({ frames := 2, cells := 0, slots := 0, locals := 20 } : Room) (gw_Pc D classes (gT cJ cI cZ cS) [.ref (A 0)] ws sz) (va_Qi (fun r w => ((r = nI 1 ∧ lm_farM N X) ∨ (r = nI 0 ∧ ¬ lm_farM N X)) ∧ w = ws) (gw_B D classes (gT cJ cI cZ cS) ws sz) (va_A ws sz)) 0 0 (va_A ws sz) := by
  refine gw_head (by decide) (Nat.le_of_ble_eq_true rfl) (fun p e s m below meth c hsz hx hb hr hlocks hml hown hnm hts hK hN hP hD hS hA ls hl => ?_)
  have hown : s.vm.findClass R_M = some m.cls := hown
  have hT : ∀ w ∈ wG, w ∈ Cond.code y_M_isFar b_M_isFar 7 (some .boolean) :: wG := gd_t _
  have hF : CallFix p m c b_M_isFar 7 s ([.ref (A 0)] : List Value).toArray (Cond.code y_M_isFar b_M_isFar 7 (some .boolean) :: wG) R_M := ⟨hx, hb, hml, hown, hts⟩
  have hl : lv_has ls 7 [(0, .ref (A 0))] := hl
  refine lv_iconst (v := nI 0) hx hb d_M_isFar_0 (by decide) ?_
  refine lv_istore_n (lv' := [(1, .int (nI 0)), (0, .ref (A 0))]) hx hb d_M_isFar_1 rfl hl (by decide) rfl (fun ls hl => ?_)
  have lp_2 : ∀ (dd i : Nat), i + dd = (2 * N) → ∀ (H : Heap) (locs : List Loc) (ls : Array Slot), (∀ a, a < i → ∀ t, t < 2 * N → ¬ lm_fr a t (D0 (10 * a + t))) → va_P D classes ws H → va_D (va_A ws sz) ws → va_S (va_A ws sz) s.heap H locs → lv_has ls 7 [(1, .int (nI i)), (0, .ref (A 0))] → W p l e ({ frames := 2, cells := 0, slots := 0, locals := 20 } : Room) s m ([.ref (A 0)] : List Value).toArray below meth c H locs 0 0 (MQ below (va_Qi (fun r w => ((r = nI 1 ∧ lm_farM N X) ∨ (r = nI 0 ∧ ¬ lm_farM N X)) ∧ w = ws) (gw_B D classes (gT cJ cI cZ cS) ws sz) (va_A ws sz)) ([.ref (A 0)] : List Value).toArray s 0 0 (va_A ws sz)) (F0 m 2 ls []) := by
    intro dd
    induction dd with
    | zero =>
      intro i e_i H locs ls ha hP hD hS hl
      have e0_i : (2 * N) = i := by omega
      subst e0_i
      refine lv_iload_n hx hb d_M_isFar_2 rfl (lv_at hl 0 rfl) ?_
      refine lv_iconst (v := nI 2) hx hb d_M_isFar_3 (by decide) ?_
      refine lv_aload_n hx hb d_M_isFar_4 rfl (lv_at hl 1 rfl) ?_
      refine gf_M_42 hF hT hK hP m0 rfl d_M_isFar_5 ?_
      refine lv_imul hx hb d_M_isFar_8 ?_
      refine gx_i (y := nI (2 * N)) (pk_mul _ _) ?_
      refine lv_icmp_ge (tgt := 100) hx hb d_M_isFar_9 (by decide) (fun c1 => ?_) (fun c1 => ?_)
      · have c1 := (nI_leI (a := (2 * N)) (b := (2 * N)) (by omega) (by omega)).mp c1
        refine lv_iconst (v := nI 0) hx hb d_M_isFar_100 (by decide) ?_
        exact gw_zret hx hb hr hlocks hK hP hD hS (Nat.le_of_ble_eq_true rfl) (Nat.le_of_ble_eq_true rfl) rfl d_M_isFar_101 ⟨Or.inr ⟨rfl, fun ⟨a, h1, t, h2, h3⟩ => ha a h1 t h2 ((hX a t h1 h2).symm ▸ h3)⟩, rfl⟩
      · have c1 : ¬ (2 * N ≤ (2 * N)) := fun z => c1 ((nI_leI (a := (2 * N)) (b := (2 * N)) (by omega) (by omega)).mpr z)
        exfalso; omega
    | succ dd ih_2 =>
      intro i e_i H locs ls ha hP hD hS hl
      refine lv_iload_n hx hb d_M_isFar_2 rfl (lv_at hl 0 rfl) ?_
      refine lv_iconst (v := nI 2) hx hb d_M_isFar_3 (by decide) ?_
      refine lv_aload_n hx hb d_M_isFar_4 rfl (lv_at hl 1 rfl) ?_
      refine gf_M_42 hF hT hK hP m0 rfl d_M_isFar_5 ?_
      refine lv_imul hx hb d_M_isFar_8 ?_
      refine gx_i (y := nI (2 * N)) (pk_mul _ _) ?_
      refine lv_icmp_ge (tgt := 100) hx hb d_M_isFar_9 (by decide) (fun c2 => ?_) (fun c2 => ?_)
      · have c2 := (nI_leI (a := (2 * N)) (b := i) (by omega) (by omega)).mp c2
        exfalso; omega
      · have c2 : ¬ (2 * N ≤ i) := fun z => c2 ((nI_leI (a := (2 * N)) (b := i) (by omega) (by omega)).mpr z)
        refine lv_iconst (v := nI 0) hx hb d_M_isFar_12 (by decide) ?_
        refine lv_istore_n (lv' := [(2, .int (nI 0)), (1, .int (nI i)), (0, .ref (A 0))]) hx hb d_M_isFar_13 rfl hl (by decide) rfl (fun ls hl => ?_)
        have lp_14 : ∀ (dd k : Nat), k + dd = (2 * N) → ∀ (H : Heap) (locs : List Loc) (ls : Array Slot), (∀ t, t < k → ¬ lm_fr i t (D0 (10 * i + t))) → va_P D classes ws H → va_D (va_A ws sz) ws → va_S (va_A ws sz) s.heap H locs → lv_has ls 7 [(2, .int (nI k)), (1, .int (nI i)), (0, .ref (A 0))] → W p l e ({ frames := 2, cells := 0, slots := 0, locals := 20 } : Room) s m ([.ref (A 0)] : List Value).toArray below meth c H locs 0 0 (MQ below (va_Qi (fun r w => ((r = nI 1 ∧ lm_farM N X) ∨ (r = nI 0 ∧ ¬ lm_farM N X)) ∧ w = ws) (gw_B D classes (gT cJ cI cZ cS) ws sz) (va_A ws sz)) ([.ref (A 0)] : List Value).toArray s 0 0 (va_A ws sz)) (F0 m 14 ls []) := by
          intro dd
          induction dd with
          | zero =>
            intro k e_k H locs ls hq hP hD hS hl
            have e0_k : (2 * N) = k := by omega
            subst e0_k
            refine lv_iload_n hx hb d_M_isFar_14 rfl (lv_at hl 0 rfl) ?_
            refine lv_iconst (v := nI 2) hx hb d_M_isFar_15 (by decide) ?_
            refine lv_aload_n hx hb d_M_isFar_16 rfl (lv_at hl 2 rfl) ?_
            refine gf_M_42 hF hT hK hP m0 rfl d_M_isFar_17 ?_
            refine lv_imul hx hb d_M_isFar_20 ?_
            refine gx_i (y := nI (2 * N)) (pk_mul _ _) ?_
            refine lv_icmp_ge (tgt := 94) hx hb d_M_isFar_21 (by decide) (fun c3 => ?_) (fun c3 => ?_)
            · have c3 := (nI_leI (a := (2 * N)) (b := (2 * N)) (by omega) (by omega)).mp c3
              refine lv_iinc (v := nI (i + 1)) (lv' := [(1, .int (nI (i + 1))), (2, .int (nI (2 * N))), (0, .ref (A 0))]) hx hb d_M_isFar_94 hl (k := 1) rfl (gx_inc _) (by decide) rfl (fun ls hl => ?_)
              refine lv_goto (tgt := 2) hx hb d_M_isFar_97 (by decide) ?_
              exact ih_2 (i + 1) (by omega) _ _ _  (lt_s ha (fun t ht => hq t (by omega))) hP hD hS (lv_sub hl [0, 2] rfl)
            · have c3 : ¬ (2 * N ≤ (2 * N)) := fun z => c3 ((nI_leI (a := (2 * N)) (b := (2 * N)) (by omega) (by omega)).mpr z)
              exfalso; omega
          | succ dd ih_14 =>
            intro k e_k H locs ls hq hP hD hS hl
            refine lv_iload_n hx hb d_M_isFar_14 rfl (lv_at hl 0 rfl) ?_
            refine lv_iconst (v := nI 2) hx hb d_M_isFar_15 (by decide) ?_
            refine lv_aload_n hx hb d_M_isFar_16 rfl (lv_at hl 2 rfl) ?_
            refine gf_M_42 hF hT hK hP m0 rfl d_M_isFar_17 ?_
            refine lv_imul hx hb d_M_isFar_20 ?_
            refine gx_i (y := nI (2 * N)) (pk_mul _ _) ?_
            refine lv_icmp_ge (tgt := 94) hx hb d_M_isFar_21 (by decide) (fun c4 => ?_) (fun c4 => ?_)
            · have c4 := (nI_leI (a := (2 * N)) (b := k) (by omega) (by omega)).mp c4
              exfalso; omega
            · have c4 : ¬ (2 * N ≤ k) := fun z => c4 ((nI_leI (a := (2 * N)) (b := k) (by omega) (by omega)).mpr z)
              refine lv_aload_n hx hb d_M_isFar_24 rfl (lv_at hl 2 rfl) ?_
              refine gf_M_17 hF hT hK hP m0 rfl d_M_isFar_25 ?_
              refine lv_bipush (v := nI 10) hx hb d_M_isFar_28 (by decide) ?_
              refine lv_iload_n hx hb d_M_isFar_30 rfl (lv_at hl 1 rfl) ?_
              refine lv_imul hx hb d_M_isFar_31 ?_
              refine gx_i (y := nI (10 * i)) (pk_mul _ _) ?_
              refine lv_iload_n hx hb d_M_isFar_32 rfl (lv_at hl 0 rfl) ?_
              refine lv_iadd hx hb d_M_isFar_33 ?_
              refine gx_i (y := nI ((10 * i) + k)) (nI_add _ _) ?_
              refine g_lald (t0 := 0) (k := (10 * i) + k) hx hb hK hP mD rfl (by omega) (by omega) d_M_isFar_34 ?_
              refine lv_lstore_n (lv' := [(3, .long (D0 ((10 * i) + k))), (2, .int (nI k)), (1, .int (nI i)), (0, .ref (A 0))]) hx hb d_M_isFar_35 rfl hl (by decide) rfl (fun ls hl => ?_)
              refine lv_iload_n hx hb d_M_isFar_36 rfl (lv_at hl 2 rfl) ?_
              refine lv_iload_n hx hb d_M_isFar_37 rfl (lv_at hl 1 rfl) ?_
              refine lv_icmp_ne (tgt := 49) hx hb d_M_isFar_38 (by decide) (fun c5 => ?_) (fun c5 => ?_)
              · have c5 : ¬ (i = k) := fun z => c5 ((nI_eq (a := i) (b := k) (by omega) (by omega)).mpr z)
                refine lv_lload_n hx hb d_M_isFar_49 rfl (lv_at hl 0 rfl) ?_
                refine lv_lstore (lv' := [(5, .long (D0 ((10 * i) + k))), (3, .long (D0 ((10 * i) + k))), (2, .int (nI k)), (1, .int (nI i)), (0, .ref (A 0))]) hx hb d_M_isFar_50 hl (by decide) rfl (fun ls hl => ?_)
                refine lv_iload_n hx hb d_M_isFar_52 rfl (lv_at hl 2 rfl) ?_
                refine lv_iload_n hx hb d_M_isFar_53 rfl (lv_at hl 3 rfl) ?_
                refine gw_ci0 (gc_M_53 (As := [.int (nI i)]) (rest := [.int (nI k)]) hF hT (c_M_opposite (by omega)) ⟨(Nat.le_of_ble_eq_true rfl), (Nat.le_of_ble_eq_true rfl)⟩ rfl rfl hK hN hP hD rfl hl.1 rfl (Nat.le_of_ble_eq_true rfl) d_M_isFar_54 ⟨(Nat.le_of_ble_eq_true rfl), (Nat.le_of_ble_eq_true rfl)⟩) hD hS hA (fun r6 H locs e_r6 hP hD hS => ?_)
                subst e_r6
                have hop := lr_op_ev (x := 5) (i := i) (by omega)
                refine lv_icmp_eq (tgt := 88) hx hb d_M_isFar_57 (by decide) (fun c7 => ?_) (fun c7 => ?_)
                · have c7 := (nI_eq (a := k) (b := (lr_op i)) (by omega) (by omega)).mp c7
                  refine lv_iinc (v := nI (k + 1)) (lv' := [(2, .int (nI (k + 1))), (5, .long (D0 ((10 * i) + k))), (3, .long (D0 ((10 * i) + k))), (1, .int (nI i)), (0, .ref (A 0))]) hx hb d_M_isFar_88 hl (k := 2) rfl (gx_inc _) (by decide) rfl (fun ls hl => ?_)
                  refine lv_goto (tgt := 14) hx hb d_M_isFar_91 (by decide) ?_
                  exact ih_14 (k + 1) (by omega) _ _ _  (lt_s hq (fun q => q.1 c7)) hP hD hS (lv_sub hl [0, 3, 4] rfl)
                · have c7 : ¬ (k = lr_op i) := fun z => c7 ((nI_eq (a := k) (b := (lr_op i)) (by omega) (by omega)).mpr z)
                  refine lv_lload_n hx hb d_M_isFar_60 rfl (lv_at hl 1 rfl) ?_
                  refine lv_ldc2 (v := lr_E) hx hb hown (hts _ (hT _ wm_3_124)) d_M_isFar_61 ?_
                  refine gx_leq (tgt := 88) hx hb d_M_isFar_64 d_M_isFar_65 (by decide) (fun c8 => ?_) (fun c8 => ?_)
                  · refine lv_iinc (v := nI (k + 1)) (lv' := [(2, .int (nI (k + 1))), (5, .long (D0 ((10 * i) + k))), (3, .long (D0 ((10 * i) + k))), (1, .int (nI i)), (0, .ref (A 0))]) hx hb d_M_isFar_88 hl (k := 2) rfl (gx_inc _) (by decide) rfl (fun ls hl => ?_)
                    refine lv_goto (tgt := 14) hx hb d_M_isFar_91 (by decide) ?_
                    exact ih_14 (k + 1) (by omega) _ _ _  (lt_s hq (fun q => q.2.1 c8)) hP hD hS (lv_sub hl [0, 3, 4] rfl)
                  · refine lv_lload hx hb d_M_isFar_68 (lv_at hl 0 rfl) ?_
                    refine lv_ldc2 (v := (1000000000000000 : Int64)) hx hb hown (hts _ (hT _ wm_3_225)) d_M_isFar_70 ?_
                    refine gx_lgt (tgt := 86) hx hb d_M_isFar_73 d_M_isFar_74 (by decide) (fun c9 => ?_) (fun c9 => ?_)
                    · refine lv_iconst (v := nI 1) hx hb d_M_isFar_86 (by decide) ?_
                      exact gw_zret hx hb hr hlocks hK hP hD hS (Nat.le_of_ble_eq_true rfl) (Nat.le_of_ble_eq_true rfl) rfl d_M_isFar_87 ⟨Or.inl ⟨rfl, i, by omega, k, by omega, (hX i k (by omega) (by omega)) ▸ ⟨c7, c8, by rw [if_neg c5]; exact Or.inl c9⟩⟩, rfl⟩
                    · refine lv_lload hx hb d_M_isFar_77 (lv_at hl 0 rfl) ?_
                      refine lv_ldc2 (v := (-1000000000000000 : Int64)) hx hb hown (hts _ (hT _ wm_3_226)) d_M_isFar_79 ?_
                      refine gx_lge (tgt := 88) hx hb d_M_isFar_82 d_M_isFar_83 (by decide) (fun c10 => ?_) (fun c10 => ?_)
                      · refine lv_iinc (v := nI (k + 1)) (lv' := [(2, .int (nI (k + 1))), (5, .long (D0 ((10 * i) + k))), (3, .long (D0 ((10 * i) + k))), (1, .int (nI i)), (0, .ref (A 0))]) hx hb d_M_isFar_88 hl (k := 2) rfl (gx_inc _) (by decide) rfl (fun ls hl => ?_)
                        refine lv_goto (tgt := 14) hx hb d_M_isFar_91 (by decide) ?_
                        exact ih_14 (k + 1) (by omega) _ _ _  (lt_s hq (fun q => by have q2 := q.2.2; rw [if_neg c5] at q2; exact q2.elim c9 (Int64.not_lt.mpr c10))) hP hD hS (lv_sub hl [0, 3, 4] rfl)
                      · refine lv_iconst (v := nI 1) hx hb d_M_isFar_86 (by decide) ?_
                        exact gw_zret hx hb hr hlocks hK hP hD hS (Nat.le_of_ble_eq_true rfl) (Nat.le_of_ble_eq_true rfl) rfl d_M_isFar_87 ⟨Or.inl ⟨rfl, i, by omega, k, by omega, (hX i k (by omega) (by omega)) ▸ ⟨c7, c8, by rw [if_neg c5]; exact Or.inr (Int64.not_le.mp c10)⟩⟩, rfl⟩
              · have c5 := (nI_eq (a := i) (b := k) (by omega) (by omega)).mp c5
                refine lv_lload_n hx hb d_M_isFar_41 rfl (lv_at hl 0 rfl) ?_
                refine lv_ldc2 (v := (2 : Int64)) hx hb hown (hts _ (hT _ wm_3_202)) d_M_isFar_42 ?_
                refine lv_ldiv hx hb d_M_isFar_45 (by decide) ?_
                refine lv_goto (tgt := 50) hx hb d_M_isFar_46 (by decide) ?_
                refine lv_lstore (lv' := [(5, .long ((D0 ((10 * i) + k)) / (2 : Int64))), (3, .long (D0 ((10 * i) + k))), (2, .int (nI k)), (1, .int (nI i)), (0, .ref (A 0))]) hx hb d_M_isFar_50 hl (by decide) rfl (fun ls hl => ?_)
                refine lv_iload_n hx hb d_M_isFar_52 rfl (lv_at hl 2 rfl) ?_
                refine lv_iload_n hx hb d_M_isFar_53 rfl (lv_at hl 3 rfl) ?_
                refine gw_ci0 (gc_M_53 (As := [.int (nI i)]) (rest := [.int (nI k)]) hF hT (c_M_opposite (by omega)) ⟨(Nat.le_of_ble_eq_true rfl), (Nat.le_of_ble_eq_true rfl)⟩ rfl rfl hK hN hP hD rfl hl.1 rfl (Nat.le_of_ble_eq_true rfl) d_M_isFar_54 ⟨(Nat.le_of_ble_eq_true rfl), (Nat.le_of_ble_eq_true rfl)⟩) hD hS hA (fun r11 H locs e_r11 hP hD hS => ?_)
                subst e_r11
                have hop := lr_op_ev (x := 5) (i := i) (by omega)
                refine lv_icmp_eq (tgt := 88) hx hb d_M_isFar_57 (by decide) (fun c12 => ?_) (fun c12 => ?_)
                · have c12 := (nI_eq (a := k) (b := (lr_op i)) (by omega) (by omega)).mp c12
                  refine lv_iinc (v := nI (k + 1)) (lv' := [(2, .int (nI (k + 1))), (5, .long ((D0 ((10 * i) + k)) / (2 : Int64))), (3, .long (D0 ((10 * i) + k))), (1, .int (nI i)), (0, .ref (A 0))]) hx hb d_M_isFar_88 hl (k := 2) rfl (gx_inc _) (by decide) rfl (fun ls hl => ?_)
                  refine lv_goto (tgt := 14) hx hb d_M_isFar_91 (by decide) ?_
                  exact ih_14 (k + 1) (by omega) _ _ _  (lt_s hq (fun q => q.1 c12)) hP hD hS (lv_sub hl [0, 3, 4] rfl)
                · have c12 : ¬ (k = lr_op i) := fun z => c12 ((nI_eq (a := k) (b := (lr_op i)) (by omega) (by omega)).mpr z)
                  refine lv_lload_n hx hb d_M_isFar_60 rfl (lv_at hl 1 rfl) ?_
                  refine lv_ldc2 (v := lr_E) hx hb hown (hts _ (hT _ wm_3_124)) d_M_isFar_61 ?_
                  refine gx_leq (tgt := 88) hx hb d_M_isFar_64 d_M_isFar_65 (by decide) (fun c13 => ?_) (fun c13 => ?_)
                  · refine lv_iinc (v := nI (k + 1)) (lv' := [(2, .int (nI (k + 1))), (5, .long ((D0 ((10 * i) + k)) / (2 : Int64))), (3, .long (D0 ((10 * i) + k))), (1, .int (nI i)), (0, .ref (A 0))]) hx hb d_M_isFar_88 hl (k := 2) rfl (gx_inc _) (by decide) rfl (fun ls hl => ?_)
                    refine lv_goto (tgt := 14) hx hb d_M_isFar_91 (by decide) ?_
                    exact ih_14 (k + 1) (by omega) _ _ _  (lt_s hq (fun q => q.2.1 c13)) hP hD hS (lv_sub hl [0, 3, 4] rfl)
                  · refine lv_lload hx hb d_M_isFar_68 (lv_at hl 0 rfl) ?_
                    refine lv_ldc2 (v := (1000000000000000 : Int64)) hx hb hown (hts _ (hT _ wm_3_225)) d_M_isFar_70 ?_
                    refine gx_lgt (tgt := 86) hx hb d_M_isFar_73 d_M_isFar_74 (by decide) (fun c14 => ?_) (fun c14 => ?_)
                    · refine lv_iconst (v := nI 1) hx hb d_M_isFar_86 (by decide) ?_
                      exact gw_zret hx hb hr hlocks hK hP hD hS (Nat.le_of_ble_eq_true rfl) (Nat.le_of_ble_eq_true rfl) rfl d_M_isFar_87 ⟨Or.inl ⟨rfl, i, by omega, k, by omega, (hX i k (by omega) (by omega)) ▸ ⟨c12, c13, by rw [if_pos c5]; exact Or.inl c14⟩⟩, rfl⟩
                    · refine lv_lload hx hb d_M_isFar_77 (lv_at hl 0 rfl) ?_
                      refine lv_ldc2 (v := (-1000000000000000 : Int64)) hx hb hown (hts _ (hT _ wm_3_226)) d_M_isFar_79 ?_
                      refine gx_lge (tgt := 88) hx hb d_M_isFar_82 d_M_isFar_83 (by decide) (fun c15 => ?_) (fun c15 => ?_)
                      · refine lv_iinc (v := nI (k + 1)) (lv' := [(2, .int (nI (k + 1))), (5, .long ((D0 ((10 * i) + k)) / (2 : Int64))), (3, .long (D0 ((10 * i) + k))), (1, .int (nI i)), (0, .ref (A 0))]) hx hb d_M_isFar_88 hl (k := 2) rfl (gx_inc _) (by decide) rfl (fun ls hl => ?_)
                        refine lv_goto (tgt := 14) hx hb d_M_isFar_91 (by decide) ?_
                        exact ih_14 (k + 1) (by omega) _ _ _  (lt_s hq (fun q => by have q2 := q.2.2; rw [if_pos c5] at q2; exact q2.elim c14 (Int64.not_lt.mpr c15))) hP hD hS (lv_sub hl [0, 3, 4] rfl)
                      · refine lv_iconst (v := nI 1) hx hb d_M_isFar_86 (by decide) ?_
                        exact gw_zret hx hb hr hlocks hK hP hD hS (Nat.le_of_ble_eq_true rfl) (Nat.le_of_ble_eq_true rfl) rfl d_M_isFar_87 ⟨Or.inl ⟨rfl, i, by omega, k, by omega, (hX i k (by omega) (by omega)) ▸ ⟨c12, c13, by rw [if_pos c5]; exact Or.inr (Int64.not_le.mp c15)⟩⟩, rfl⟩
        exact lp_14 (2 * N) 0 (by omega) _ _ _  lt_0 hP hD hS (lv_sub hl [0, 1, 2] rfl)
  exact lp_2 (2 * N) 0 (by omega) _ _ _  lt_0 hP hD hS (lv_sub hl [0, 1] rfl)
