set_option maxHeartbeats 4000000 in
set_option maxRecDepth 100000 in
theorem c_M_close {l : Launch} {D : va_G} {cJ cI cZ cS : ClassId} {ws : va_W} {sz : Nat} {b N nm : Nat} {A : Nat → Nat} {th : Int32} {D0 : Nat → Int64} (m0 : ws[b]? = some (A 0, .inr (3, [.int th, .int (nI N), .ref (A 1), .ref (A 2), .ref (A 3), .ref (A 4), .ref (A 5), .ref (A 6), .int (nI nm), .ref (A 7), .ref (A 8), .ref (A 9), .ref (A 10)]))) (mD : ws[b + 3]? = some (A 3, .inl (cJ, 100, .inr (.inl D0)))) (hN1 : 1 ≤ N) (hN5 : N ≤ 5) {X : Nat → Nat → Int64} (hX : lm_ag N D0 X) {o : Option (Nat → Nat → Int64)} (hc : lm_Cl N X o) : Met l y_M_close w_M_close ({ frames := 2, cells := 0, slots := 0, locals := 23 } : Room) (gw_Pc D classes (gT cJ cI cZ cS) [.ref (A 0)] ws sz) (va_Qi (fun r w => (∃ F, w[b + 3]? = some (A 3, .inl (cJ, 100, .inr (.inl F))) ∧ lm_res N o F r) ∧ gF (b + 3) (b + 4) ws w) (gw_B D classes (gT cJ cI cZ cS) ws sz) (va_A ws sz)) 0 0 (va_A ws sz) := by
  refine gw_head (by decide) (Nat.le_of_ble_eq_true rfl) (fun p e s m below meth c hsz hx hb hr hlocks hml hown hnm hts hK hN hP hD hS hA ls hl => ?_)
  have hown : s.vm.findClass R_M = some m.cls := hown
  have hT : ∀ w ∈ wG, w ∈ Cond.code y_M_close b_M_close 8 (some .boolean) :: wG := gd_t _
  have hF : CallFix p m c b_M_close 8 s ([.ref (A 0)] : List Value).toArray (Cond.code y_M_close b_M_close 8 (some .boolean) :: wG) R_M := ⟨hx, hb, hml, hown, hts⟩
  have hl : lv_has ls 8 [(0, .ref (A 0))] := hl
  obtain ⟨q0, o', hq, ho⟩ := hc _ hX
  have hfr : gF (b + 3) (b + 4) ws ws := gF.rf
  refine lv_iconst (v := nI 2) hx hb d_M_close_0 (by decide) ?_
  refine lv_aload_n hx hb d_M_close_1 rfl (lv_at hl 0 rfl) ?_
  refine gf_M_42 hF hT hK hP m0 rfl d_M_close_2 ?_
  refine lv_imul hx hb d_M_close_5 ?_
  refine gx_i (y := nI (2 * N)) (pk_mul _ _) ?_
  refine lv_istore_n (lv' := [(1, .int (nI (2 * N))), (0, .ref (A 0))]) hx hb d_M_close_6 rfl hl (by decide) rfl (fun ls hl => ?_)
  refine lv_iconst (v := nI 0) hx hb d_M_close_7 (by decide) ?_
  refine lv_istore_n (lv' := [(2, .int (nI 0)), (1, .int (nI (2 * N))), (0, .ref (A 0))]) hx hb d_M_close_8 rfl hl (by decide) rfl (fun ls hl => ?_)
  have lp_9 : ∀ (dd i : Nat), i + dd = (2 * N) → ∀ (w : va_W) (H : Heap) (locs : List Loc) (ls : Array Slot), w[b]? = some (A 0, .inr (3, [.int th, .int (nI N), .ref (A 1), .ref (A 2), .ref (A 3), .ref (A 4), .ref (A 5), .ref (A 6), .int (nI nm), .ref (A 7), .ref (A 8), .ref (A 9), .ref (A 10)])) → w[b + 3]? = some (A 3, .inl (cJ, 100, .inr (.inl (lm_c0 i D0)))) → gF (b + 3) (b + 4) ws w → va_P D classes w H → va_D (va_A ws sz) w → va_S (va_A ws sz) s.heap H locs → lv_has ls 8 [(2, .int (nI i)), (1, .int (nI (2 * N))), (0, .ref (A 0))] → W p l e ({ frames := 2, cells := 0, slots := 0, locals := 23 } : Room) s m ([.ref (A 0)] : List Value).toArray below meth c H locs 0 0 (MQ below (va_Qi (fun r w => (∃ F, w[b + 3]? = some (A 3, .inl (cJ, 100, .inr (.inl F))) ∧ lm_res N o F r) ∧ gF (b + 3) (b + 4) ws w) (gw_B D classes (gT cJ cI cZ cS) ws sz) (va_A ws sz)) ([.ref (A 0)] : List Value).toArray s 0 0 (va_A ws sz)) (F0 m 9 ls []) := by
    intro dd
    induction dd with
    | zero =>
      intro i e_i w H locs ls m0 mD hfr hP hD hS hl
      have e0_i : (2 * N) = i := by omega
      subst e0_i
      refine lv_iload_n hx hb d_M_close_9 rfl (lv_at hl 0 rfl) ?_
      refine lv_iload_n hx hb d_M_close_10 rfl (lv_at hl 1 rfl) ?_
      refine lv_icmp_ge (tgt := 57) hx hb d_M_close_11 (by decide) (fun c1 => ?_) (fun c1 => ?_)
      · have c1 := (nI_leI (a := (2 * N)) (b := (2 * N)) (by omega) (by omega)).mp c1
        refine lv_iconst (v := nI 1) hx hb d_M_close_57 (by decide) ?_
        refine lv_istore_n (lv' := [(2, .int (nI 1)), (1, .int (nI (2 * N))), (0, .ref (A 0))]) hx hb d_M_close_58 rfl hl (by decide) rfl (fun ls hl => ?_)
        have lp_59 : ∀ (dd q : Nat), q + dd = q0 → ∀ (w : va_W) (H : Heap) (locs : List Loc) (ls : Array Slot) (F : Nat → Int64) (G : Int32), w[b]? = some (A 0, .inr (3, [.int th, .int (nI N), .ref (A 1), .ref (A 2), .ref (A 3), .ref (A 4), .ref (A 5), .ref (A 6), .int (nI nm), .ref (A 7), .ref (A 8), .ref (A 9), .ref (A 10)])) → w[b + 3]? = some (A 3, .inl (cJ, 100, .inr (.inl F))) → lm_runs (2 * N) dd (F, G) o' → gF (b + 3) (b + 4) ws w → va_P D classes w H → va_D (va_A ws sz) w → va_S (va_A ws sz) s.heap H locs → lv_has ls 8 [(2, .int G), (1, .int (nI (2 * N))), (0, .ref (A 0))] → W p l e ({ frames := 2, cells := 0, slots := 0, locals := 23 } : Room) s m ([.ref (A 0)] : List Value).toArray below meth c H locs 0 0 (MQ below (va_Qi (fun r w => (∃ F, w[b + 3]? = some (A 3, .inl (cJ, 100, .inr (.inl F))) ∧ lm_res N o F r) ∧ gF (b + 3) (b + 4) ws w) (gw_B D classes (gT cJ cI cZ cS) ws sz) (va_A ws sz)) ([.ref (A 0)] : List Value).toArray s 0 0 (va_A ws sz)) (F0 m 59 ls []) := by
          intro dd
          induction dd with
          | zero =>
            intro q e_q w H locs ls F G m0 mD hrun hfr hP hD hS hl
            have e0_q : q0 = q := by omega
            subst e0_q
            exact absurd hrun id
          | succ dd ih_59 =>
            intro q e_q w H locs ls F G m0 mD hrun hfr hP hD hS hl
            refine lv_iload_n hx hb d_M_close_59 rfl (lv_at hl 0 rfl) ?_
            refine lv_if_eq (tgt := 482) hx hb d_M_close_60 (by decide) (fun c2 => ?_) (fun c2 => ?_)
            · refine lv_iconst (v := nI 1) hx hb d_M_close_482 (by decide) ?_
              exact gw_zret hx hb hr hlocks hK hP hD hS (Nat.le_of_ble_eq_true rfl) (Nat.le_of_ble_eq_true rfl) rfl d_M_close_483 ⟨⟨_, mD, lm_res_1 ho (lm_run_t hrun c2)⟩, hfr⟩
            · refine lv_iconst (v := nI 0) hx hb d_M_close_63 (by decide) ?_
              refine lv_istore_n (lv' := [(2, .int (nI 0)), (1, .int (nI (2 * N))), (0, .ref (A 0))]) hx hb d_M_close_64 rfl hl (by decide) rfl (fun ls hl => ?_)
              refine lv_iconst (v := nI 0) hx hb d_M_close_65 (by decide) ?_
              refine lv_istore_n (lv' := [(3, .int (nI 0)), (2, .int (nI 0)), (1, .int (nI (2 * N))), (0, .ref (A 0))]) hx hb d_M_close_66 rfl hl (by decide) rfl (fun ls hl => ?_)
              have lp_67 : ∀ (dd j : Nat), j + dd = (2 * N) → ∀ (w : va_W) (H : Heap) (locs : List Loc) (ls : Array Slot), w[b]? = some (A 0, .inr (3, [.int th, .int (nI N), .ref (A 1), .ref (A 2), .ref (A 3), .ref (A 4), .ref (A 5), .ref (A 6), .int (nI nm), .ref (A 7), .ref (A 8), .ref (A 9), .ref (A 10)])) → w[b + 3]? = some (A 3, .inl (cJ, 100, .inr (.inl ((lm_P (2 * N) j (F, nI 0)).1)))) → (∀ a, a < j → ¬ lm_neg (2 * N) (lm_P (2 * N) (a + 1) (F, nI 0)).1) → gF (b + 3) (b + 4) ws w → va_P D classes w H → va_D (va_A ws sz) w → va_S (va_A ws sz) s.heap H locs → lv_has ls 8 [(3, .int (nI j)), (2, .int ((lm_P (2 * N) j (F, nI 0)).2)), (1, .int (nI (2 * N))), (0, .ref (A 0))] → W p l e ({ frames := 2, cells := 0, slots := 0, locals := 23 } : Room) s m ([.ref (A 0)] : List Value).toArray below meth c H locs 0 0 (MQ below (va_Qi (fun r w => (∃ F, w[b + 3]? = some (A 3, .inl (cJ, 100, .inr (.inl F))) ∧ lm_res N o F r) ∧ gF (b + 3) (b + 4) ws w) (gw_B D classes (gT cJ cI cZ cS) ws sz) (va_A ws sz)) ([.ref (A 0)] : List Value).toArray s 0 0 (va_A ws sz)) (F0 m 67 ls []) := by
                intro dd
                induction dd with
                | zero =>
                  intro j e_j w H locs ls m0 mD ha hfr hP hD hS hl
                  have e0_j : (2 * N) = j := by omega
                  subst e0_j
                  refine lv_iload_n hx hb d_M_close_67 rfl (lv_at hl 0 rfl) ?_
                  refine lv_iload_n hx hb d_M_close_68 rfl (lv_at hl 2 rfl) ?_
                  refine lv_icmp_ge (tgt := 229) hx hb d_M_close_69 (by decide) (fun c3 => ?_) (fun c3 => ?_)
                  · have c3 := (nI_leI (a := (2 * N)) (b := (2 * N)) (by omega) (by omega)).mp c3
                    refine lv_iconst (v := nI 0) hx hb d_M_close_229 (by decide) ?_
                    refine lv_istore_n (lv' := [(3, .int (nI 0)), (2, .int ((lm_P (2 * N) (2 * N) (F, nI 0)).2)), (1, .int (nI (2 * N))), (0, .ref (A 0))]) hx hb d_M_close_230 rfl hl (by decide) rfl (fun ls hl => ?_)
                    have lp_231 : ∀ (dd i : Nat), i + dd = (2 * N) → ∀ (w : va_W) (H : Heap) (locs : List Loc) (ls : Array Slot), w[b]? = some (A 0, .inr (3, [.int th, .int (nI N), .ref (A 1), .ref (A 2), .ref (A 3), .ref (A 4), .ref (A 5), .ref (A 6), .int (nI nm), .ref (A 7), .ref (A 8), .ref (A 9), .ref (A 10)])) → w[b + 3]? = some (A 3, .inl (cJ, 100, .inr (.inl ((lm_E2 i (lm_P (2 * N) (2 * N) (F, nI 0))).1)))) → gF (b + 3) (b + 4) ws w → va_P D classes w H → va_D (va_A ws sz) w → va_S (va_A ws sz) s.heap H locs → lv_has ls 8 [(3, .int (nI i)), (2, .int ((lm_E2 i (lm_P (2 * N) (2 * N) (F, nI 0))).2)), (1, .int (nI (2 * N))), (0, .ref (A 0))] → W p l e ({ frames := 2, cells := 0, slots := 0, locals := 23 } : Room) s m ([.ref (A 0)] : List Value).toArray below meth c H locs 0 0 (MQ below (va_Qi (fun r w => (∃ F, w[b + 3]? = some (A 3, .inl (cJ, 100, .inr (.inl F))) ∧ lm_res N o F r) ∧ gF (b + 3) (b + 4) ws w) (gw_B D classes (gT cJ cI cZ cS) ws sz) (va_A ws sz)) ([.ref (A 0)] : List Value).toArray s 0 0 (va_A ws sz)) (F0 m 231 ls []) := by
                      intro dd
                      induction dd with
                      | zero =>
                        intro i e_i w H locs ls m0 mD hfr hP hD hS hl
                        have e0_i : (2 * N) = i := by omega
                        subst e0_i
                        refine lv_iload_n hx hb d_M_close_231 rfl (lv_at hl 0 rfl) ?_
                        refine lv_iload_n hx hb d_M_close_232 rfl (lv_at hl 2 rfl) ?_
                        refine lv_icmp_ge (tgt := 303) hx hb d_M_close_233 (by decide) (fun c4 => ?_) (fun c4 => ?_)
                        · have c4 := (nI_leI (a := (2 * N)) (b := (2 * N)) (by omega) (by omega)).mp c4
                          refine lv_iconst (v := nI 0) hx hb d_M_close_303 (by decide) ?_
                          refine lv_istore_n (lv' := [(3, .int (nI 0)), (2, .int ((lm_E2 (2 * N) (lm_P (2 * N) (2 * N) (F, nI 0))).2)), (1, .int (nI (2 * N))), (0, .ref (A 0))]) hx hb d_M_close_304 rfl hl (by decide) rfl (fun ls hl => ?_)
                          have lp_305 : ∀ (dd i : Nat), i + dd = (2 * N) → ∀ (w : va_W) (H : Heap) (locs : List Loc) (ls : Array Slot), w[b]? = some (A 0, .inr (3, [.int th, .int (nI N), .ref (A 1), .ref (A 2), .ref (A 3), .ref (A 4), .ref (A 5), .ref (A 6), .int (nI nm), .ref (A 7), .ref (A 8), .ref (A 9), .ref (A 10)])) → w[b + 3]? = some (A 3, .inl (cJ, 100, .inr (.inl ((lm_H (2 * N) i (lm_E2 (2 * N) (lm_P (2 * N) (2 * N) (F, nI 0)))).1)))) → (∀ a, a < i → ¬ lm_tw (lm_H (2 * N) a (lm_E2 (2 * N) (lm_P (2 * N) (2 * N) (F, nI 0)))).1 a) → gF (b + 3) (b + 4) ws w → va_P D classes w H → va_D (va_A ws sz) w → va_S (va_A ws sz) s.heap H locs → lv_has ls 8 [(3, .int (nI i)), (2, .int ((lm_H (2 * N) i (lm_E2 (2 * N) (lm_P (2 * N) (2 * N) (F, nI 0)))).2)), (1, .int (nI (2 * N))), (0, .ref (A 0))] → W p l e ({ frames := 2, cells := 0, slots := 0, locals := 23 } : Room) s m ([.ref (A 0)] : List Value).toArray below meth c H locs 0 0 (MQ below (va_Qi (fun r w => (∃ F, w[b + 3]? = some (A 3, .inl (cJ, 100, .inr (.inl F))) ∧ lm_res N o F r) ∧ gF (b + 3) (b + 4) ws w) (gw_B D classes (gT cJ cI cZ cS) ws sz) (va_A ws sz)) ([.ref (A 0)] : List Value).toArray s 0 0 (va_A ws sz)) (F0 m 305 ls []) := by
                            intro dd
                            induction dd with
                            | zero =>
                              intro i e_i w H locs ls m0 mD ht hfr hP hD hS hl
                              have e0_i : (2 * N) = i := by omega
                              subst e0_i
                              refine lv_iload_n hx hb d_M_close_305 rfl (lv_at hl 0 rfl) ?_
                              refine lv_iload_n hx hb d_M_close_306 rfl (lv_at hl 2 rfl) ?_
                              refine lv_icmp_ge (tgt := 479) hx hb d_M_close_307 (by decide) (fun c5 => ?_) (fun c5 => ?_)
                              · have c5 := (nI_leI (a := (2 * N)) (b := (2 * N)) (by omega) (by omega)).mp c5
                                refine lv_goto (tgt := 59) hx hb d_M_close_479 (by decide) ?_
                                exact ih_59 (q + 1) (by omega) _ _ _ _ (lm_H (2 * N) (2 * N) (lm_E2 (2 * N) (lm_P (2 * N) (2 * N) (F, nI 0)))).1 (lm_H (2 * N) (2 * N) (lm_E2 (2 * N) (lm_P (2 * N) (2 * N) (F, nI 0)))).2 m0 mD (lm_run_s hrun c2 ha ht) hfr hP hD hS (lv_sub hl [1, 2, 3] rfl)
                              · have c5 : ¬ (2 * N ≤ (2 * N)) := fun z => c5 ((nI_leI (a := (2 * N)) (b := (2 * N)) (by omega) (by omega)).mpr z)
                                exfalso; omega
                            | succ dd ih_305 =>
                              intro i e_i w H locs ls m0 mD ht hfr hP hD hS hl
                              refine lv_iload_n hx hb d_M_close_305 rfl (lv_at hl 0 rfl) ?_
                              refine lv_iload_n hx hb d_M_close_306 rfl (lv_at hl 2 rfl) ?_
                              refine lv_icmp_ge (tgt := 479) hx hb d_M_close_307 (by decide) (fun c6 => ?_) (fun c6 => ?_)
                              · have c6 := (nI_leI (a := (2 * N)) (b := i) (by omega) (by omega)).mp c6
                                exfalso; omega
                              · have c6 : ¬ (2 * N ≤ i) := fun z => c6 ((nI_leI (a := (2 * N)) (b := i) (by omega) (by omega)).mpr z)
                                refine lv_aload_n hx hb d_M_close_310 rfl (lv_at hl 3 rfl) ?_
                                refine gf_M_17 hF hT hK hP m0 rfl d_M_close_311 ?_
                                refine lv_bipush (v := nI 11) hx hb d_M_close_314 (by decide) ?_
                                refine lv_iload_n hx hb d_M_close_316 rfl (lv_at hl 0 rfl) ?_
                                refine lv_imul hx hb d_M_close_317 ?_
                                refine gx_i (y := nI (11 * i)) (pk_mul _ _) ?_
                                refine g_lald (t0 := 0) (k := 11 * i) hx hb hK hP mD rfl (by omega) (by omega) d_M_close_318 ?_
                                refine lv_aload_n hx hb d_M_close_319 rfl (lv_at hl 3 rfl) ?_
                                refine gf_M_17 hF hT hK hP m0 rfl d_M_close_320 ?_
                                refine lv_bipush (v := nI 11) hx hb d_M_close_323 (by decide) ?_
                                refine lv_iload_n hx hb d_M_close_325 rfl (lv_at hl 0 rfl) ?_
                                refine gw_ci0 (gc_M_53 (As := [.int (nI i)]) (rest := [.int (nI 11), .ref (A 3), .long (((lm_H (2 * N) i (lm_E2 (2 * N) (lm_P (2 * N) (2 * N) (F, nI 0)))).1) (11 * i))]) hF hT (c_M_opposite (by omega)) ⟨(Nat.le_of_ble_eq_true rfl), (Nat.le_of_ble_eq_true rfl)⟩ rfl rfl hK hN hP hD rfl hl.1 rfl (Nat.le_of_ble_eq_true rfl) d_M_close_326 ⟨(Nat.le_of_ble_eq_true rfl), (Nat.le_of_ble_eq_true rfl)⟩) hD hS hA (fun r7 H locs e_r7 hP hD hS => ?_)
                                subst e_r7
                                have hop := lr_op_ev (x := 5) (i := i) (by omega)
                                refine lv_imul hx hb d_M_close_329 ?_
                                refine gx_i (y := nI (11 * (lr_op i))) (pk_mul _ _) ?_
                                refine g_lald (t0 := 0) (k := 11 * (lr_op i)) hx hb hK hP mD rfl (by omega) (by omega) d_M_close_330 ?_
                                refine gw_cl0 (gc_M_57 (As := [.long (((lm_H (2 * N) i (lm_E2 (2 * N) (lm_P (2 * N) (2 * N) (F, nI 0)))).1) (11 * i)), .long (((lm_H (2 * N) i (lm_E2 (2 * N) (lm_P (2 * N) (2 * N) (F, nI 0)))).1) (11 * (lr_op i)))]) (rest := []) hF hT (c_M_sum) ⟨(Nat.le_of_ble_eq_true rfl), (Nat.le_of_ble_eq_true rfl)⟩ rfl rfl hK hN hP hD rfl hl.1 rfl (Nat.le_of_ble_eq_true rfl) d_M_close_331 ⟨(Nat.le_of_ble_eq_true rfl), (Nat.le_of_ble_eq_true rfl)⟩) hD hS hA (fun r8 H locs e_r8 hP hD hS => ?_)
                                subst e_r8
                                refine lv_lconst (v := 0) hx hb d_M_close_334 rfl ?_
                                refine gx_lge (tgt := 341) hx hb d_M_close_335 d_M_close_336 (by decide) (fun c9 => ?_) (fun c9 => ?_)
                                · have htw : ¬ lm_tw (lm_H (2 * N) i (lm_E2 (2 * N) (lm_P (2 * N) (2 * N) (F, nI 0)))).1 i := Int64.not_lt.mpr c9
                                  refine lv_iconst (v := nI 0) hx hb d_M_close_341 (by decide) ?_
                                  refine lv_istore (lv' := [(4, .int (nI 0)), (3, .int (nI i)), (2, .int ((lm_H (2 * N) i (lm_E2 (2 * N) (lm_P (2 * N) (2 * N) (F, nI 0)))).2)), (1, .int (nI (2 * N))), (0, .ref (A 0))]) hx hb d_M_close_342 hl (by decide) rfl (fun ls hl => ?_)
                                  have lp_344 : ∀ (dd k : Nat), k + dd = (2 * N) → ∀ (w : va_W) (H : Heap) (locs : List Loc) (ls : Array Slot), w[b]? = some (A 0, .inr (3, [.int th, .int (nI N), .ref (A 1), .ref (A 2), .ref (A 3), .ref (A 4), .ref (A 5), .ref (A 6), .int (nI nm), .ref (A 7), .ref (A 8), .ref (A 9), .ref (A 10)])) → w[b + 3]? = some (A 3, .inl (cJ, 100, .inr (.inl ((lm_HK i k (lm_H (2 * N) i (lm_E2 (2 * N) (lm_P (2 * N) (2 * N) (F, nI 0))))).1)))) → gF (b + 3) (b + 4) ws w → va_P D classes w H → va_D (va_A ws sz) w → va_S (va_A ws sz) s.heap H locs → lv_has ls 8 [(4, .int (nI k)), (3, .int (nI i)), (2, .int ((lm_HK i k (lm_H (2 * N) i (lm_E2 (2 * N) (lm_P (2 * N) (2 * N) (F, nI 0))))).2)), (1, .int (nI (2 * N))), (0, .ref (A 0))] → W p l e ({ frames := 2, cells := 0, slots := 0, locals := 23 } : Room) s m ([.ref (A 0)] : List Value).toArray below meth c H locs 0 0 (MQ below (va_Qi (fun r w => (∃ F, w[b + 3]? = some (A 3, .inl (cJ, 100, .inr (.inl F))) ∧ lm_res N o F r) ∧ gF (b + 3) (b + 4) ws w) (gw_B D classes (gT cJ cI cZ cS) ws sz) (va_A ws sz)) ([.ref (A 0)] : List Value).toArray s 0 0 (va_A ws sz)) (F0 m 344 ls []) := by
                                    intro dd
                                    induction dd with
                                    | zero =>
                                      intro k e_k w H locs ls m0 mD hfr hP hD hS hl
                                      have e0_k : (2 * N) = k := by omega
                                      subst e0_k
                                      refine lv_iload hx hb d_M_close_344 (lv_at hl 0 rfl) ?_
                                      refine lv_iload_n hx hb d_M_close_346 rfl (lv_at hl 3 rfl) ?_
                                      refine lv_icmp_ge (tgt := 473) hx hb d_M_close_347 (by decide) (fun c10 => ?_) (fun c10 => ?_)
                                      · have c10 := (nI_leI (a := (2 * N)) (b := (2 * N)) (by omega) (by omega)).mp c10
                                        refine lv_iinc (v := nI (i + 1)) (lv' := [(3, .int (nI (i + 1))), (4, .int (nI (2 * N))), (2, .int ((lm_HK i (2 * N) (lm_H (2 * N) i (lm_E2 (2 * N) (lm_P (2 * N) (2 * N) (F, nI 0))))).2)), (1, .int (nI (2 * N))), (0, .ref (A 0))]) hx hb d_M_close_473 hl (k := 1) rfl (gx_inc _) (by decide) rfl (fun ls hl => ?_)
                                        refine lv_goto (tgt := 305) hx hb d_M_close_476 (by decide) ?_
                                        exact ih_305 (i + 1) (by omega) _ _ _ _ m0 mD (lt_s ht htw) hfr hP hD hS (lv_sub hl [0, 2, 3, 4] rfl)
                                      · have c10 : ¬ (2 * N ≤ (2 * N)) := fun z => c10 ((nI_leI (a := (2 * N)) (b := (2 * N)) (by omega) (by omega)).mpr z)
                                        exfalso; omega
                                    | succ dd ih_344 =>
                                      intro k e_k w H locs ls m0 mD hfr hP hD hS hl
                                      refine lv_iload hx hb d_M_close_344 (lv_at hl 0 rfl) ?_
                                      refine lv_iload_n hx hb d_M_close_346 rfl (lv_at hl 3 rfl) ?_
                                      refine lv_icmp_ge (tgt := 473) hx hb d_M_close_347 (by decide) (fun c11 => ?_) (fun c11 => ?_)
                                      · have c11 := (nI_leI (a := (2 * N)) (b := k) (by omega) (by omega)).mp c11
                                        exfalso; omega
                                      · have c11 : ¬ (2 * N ≤ k) := fun z => c11 ((nI_leI (a := (2 * N)) (b := k) (by omega) (by omega)).mpr z)
                                        have mg_417 : ∀ (H : Heap) (locs : List Loc), va_P D classes w H → va_D (va_A ws sz) w → va_S (va_A ws sz) s.heap H locs → W p l e ({ frames := 2, cells := 0, slots := 0, locals := 23 } : Room) s m ([.ref (A 0)] : List Value).toArray below meth c H locs 0 0 (MQ below (va_Qi (fun r w => (∃ F, w[b + 3]? = some (A 3, .inl (cJ, 100, .inr (.inl F))) ∧ lm_res N o F r) ∧ gF (b + 3) (b + 4) ws w) (gw_B D classes (gT cJ cI cZ cS) ws sz) (va_A ws sz)) ([.ref (A 0)] : List Value).toArray s 0 0 (va_A ws sz)) (F0 m 417 ls [.long (lm_c2 ((lm_HK i k (lm_H (2 * N) i (lm_E2 (2 * N) (lm_P (2 * N) (2 * N) (F, nI 0))))).1 (11 * i)) ((lm_HK i k (lm_H (2 * N) i (lm_E2 (2 * N) (lm_P (2 * N) (2 * N) (F, nI 0))))).1 (11 * k)))]) := by
                                          intro H locs hP hD hS
                                          refine lv_lstore (lv' := [(5, .long (lm_c2 ((lm_HK i k (lm_H (2 * N) i (lm_E2 (2 * N) (lm_P (2 * N) (2 * N) (F, nI 0))))).1 (11 * i)) ((lm_HK i k (lm_H (2 * N) i (lm_E2 (2 * N) (lm_P (2 * N) (2 * N) (F, nI 0))))).1 (11 * k)))), (4, .int (nI k)), (3, .int (nI i)), (2, .int ((lm_HK i k (lm_H (2 * N) i (lm_E2 (2 * N) (lm_P (2 * N) (2 * N) (F, nI 0))))).2)), (1, .int (nI (2 * N))), (0, .ref (A 0))]) hx hb d_M_close_417 hl (by decide) rfl (fun ls hl => ?_)
                                          refine lv_lload hx hb d_M_close_419 (lv_at hl 0 rfl) ?_
                                          refine lv_aload_n hx hb d_M_close_421 rfl (lv_at hl 5 rfl) ?_
                                          refine gf_M_17 hF hT hK hP m0 rfl d_M_close_422 ?_
                                          refine lv_bipush (v := nI 10) hx hb d_M_close_425 (by decide) ?_
                                          refine lv_iload_n hx hb d_M_close_427 rfl (lv_at hl 2 rfl) ?_
                                          refine lv_imul hx hb d_M_close_428 ?_
                                          refine gx_i (y := nI (10 * i)) (pk_mul _ _) ?_
                                          refine lv_iload hx hb d_M_close_429 (lv_at hl 1 rfl) ?_
                                          refine lv_iadd hx hb d_M_close_431 ?_
                                          refine gx_i (y := nI ((10 * i) + k)) (nI_add _ _) ?_
                                          refine g_lald (t0 := 0) (k := (10 * i) + k) hx hb hK hP mD rfl (by omega) (by omega) d_M_close_432 ?_
                                          refine gx_lge (tgt := 467) hx hb d_M_close_433 d_M_close_434 (by decide) (fun c12 => ?_) (fun c12 => ?_)
                                          · refine lv_iinc (v := nI (k + 1)) (lv' := [(4, .int (nI (k + 1))), (5, .long (lm_c2 ((lm_HK i k (lm_H (2 * N) i (lm_E2 (2 * N) (lm_P (2 * N) (2 * N) (F, nI 0))))).1 (11 * i)) ((lm_HK i k (lm_H (2 * N) i (lm_E2 (2 * N) (lm_P (2 * N) (2 * N) (F, nI 0))))).1 (11 * k)))), (3, .int (nI i)), (2, .int ((lm_HK i k (lm_H (2 * N) i (lm_E2 (2 * N) (lm_P (2 * N) (2 * N) (F, nI 0))))).2)), (1, .int (nI (2 * N))), (0, .ref (A 0))]) hx hb d_M_close_467 hl (k := 1) rfl (gx_inc _) (by decide) rfl (fun ls hl => ?_)
                                            refine lv_goto (tgt := 344) hx hb d_M_close_470 (by decide) ?_
                                            have eB13 : (lm_HK i (k + 1) (lm_H (2 * N) i (lm_E2 (2 * N) (lm_P (2 * N) (2 * N) (F, nI 0))))).1 = (lm_HK i k (lm_H (2 * N) i (lm_E2 (2 * N) (lm_P (2 * N) (2 * N) (F, nI 0))))).1 := by show (lm_h i k (lm_HK i k (lm_H (2 * N) i (lm_E2 (2 * N) (lm_P (2 * N) (2 * N) (F, nI 0)))))).1 = _; unfold lm_h; rw [if_pos c12]
                                            rw [← eB13] at mD
                                            have eB14 : (lm_HK i (k + 1) (lm_H (2 * N) i (lm_E2 (2 * N) (lm_P (2 * N) (2 * N) (F, nI 0))))).2 = (lm_HK i k (lm_H (2 * N) i (lm_E2 (2 * N) (lm_P (2 * N) (2 * N) (F, nI 0))))).2 := by show (lm_h i k (lm_HK i k (lm_H (2 * N) i (lm_E2 (2 * N) (lm_P (2 * N) (2 * N) (F, nI 0)))))).2 = _; unfold lm_h; rw [if_pos c12]
                                            rw [← eB14] at hl
                                            exact ih_344 (k + 1) (by omega) _ _ _ _ m0 mD hfr hP hD hS (lv_sub hl [0, 2, 3, 4, 5] rfl)
                                          · refine lv_aload_n hx hb d_M_close_437 rfl (lv_at hl 5 rfl) ?_
                                            refine gf_M_17 hF hT hK hP m0 rfl d_M_close_438 ?_
                                            refine lv_bipush (v := nI 10) hx hb d_M_close_441 (by decide) ?_
                                            refine lv_iload_n hx hb d_M_close_443 rfl (lv_at hl 2 rfl) ?_
                                            refine lv_imul hx hb d_M_close_444 ?_
                                            refine gx_i (y := nI (10 * i)) (pk_mul _ _) ?_
                                            refine lv_iload hx hb d_M_close_445 (lv_at hl 1 rfl) ?_
                                            refine lv_iadd hx hb d_M_close_447 ?_
                                            refine gx_i (y := nI ((10 * i) + k)) (nI_add _ _) ?_
                                            refine lv_lload hx hb d_M_close_448 (lv_at hl 0 rfl) ?_
                                            refine g_last (t0 := 0) (k := (10 * i) + k) hx hb hK hP hD hS mD rfl (by omega) (by omega) d_M_close_450 (fun w H locs mD hf hP hD hS => ?_)
                                            have m0 := hf.at m0 (by omega)
                                            have hfr := hfr.in hf (by omega) (by omega)
                                            refine lv_aload_n hx hb d_M_close_451 rfl (lv_at hl 5 rfl) ?_
                                            refine gf_M_17 hF hT hK hP m0 rfl d_M_close_452 ?_
                                            refine lv_bipush (v := nI 10) hx hb d_M_close_455 (by decide) ?_
                                            refine lv_iload hx hb d_M_close_457 (lv_at hl 1 rfl) ?_
                                            refine lv_imul hx hb d_M_close_459 ?_
                                            refine gx_i (y := nI (10 * k)) (pk_mul _ _) ?_
                                            refine lv_iload_n hx hb d_M_close_460 rfl (lv_at hl 2 rfl) ?_
                                            refine lv_iadd hx hb d_M_close_461 ?_
                                            refine gx_i (y := nI ((10 * k) + i)) (nI_add _ _) ?_
                                            refine lv_lload hx hb d_M_close_462 (lv_at hl 0 rfl) ?_
                                            refine g_last (t0 := 0) (k := (10 * k) + i) hx hb hK hP hD hS mD rfl (by omega) (by omega) d_M_close_464 (fun w H locs mD hf hP hD hS => ?_)
                                            have m0 := hf.at m0 (by omega)
                                            have hfr := hfr.in hf (by omega) (by omega)
                                            refine lv_iconst (v := nI 1) hx hb d_M_close_465 (by decide) ?_
                                            refine lv_istore_n (lv' := [(2, .int (nI 1)), (5, .long (lm_c2 ((lm_HK i k (lm_H (2 * N) i (lm_E2 (2 * N) (lm_P (2 * N) (2 * N) (F, nI 0))))).1 (11 * i)) ((lm_HK i k (lm_H (2 * N) i (lm_E2 (2 * N) (lm_P (2 * N) (2 * N) (F, nI 0))))).1 (11 * k)))), (4, .int (nI k)), (3, .int (nI i)), (1, .int (nI (2 * N))), (0, .ref (A 0))]) hx hb d_M_close_466 rfl hl (by decide) rfl (fun ls hl => ?_)
                                            refine lv_iinc (v := nI (k + 1)) (lv' := [(4, .int (nI (k + 1))), (2, .int (nI 1)), (5, .long (lm_c2 ((lm_HK i k (lm_H (2 * N) i (lm_E2 (2 * N) (lm_P (2 * N) (2 * N) (F, nI 0))))).1 (11 * i)) ((lm_HK i k (lm_H (2 * N) i (lm_E2 (2 * N) (lm_P (2 * N) (2 * N) (F, nI 0))))).1 (11 * k)))), (3, .int (nI i)), (1, .int (nI (2 * N))), (0, .ref (A 0))]) hx hb d_M_close_467 hl (k := 2) rfl (gx_inc _) (by decide) rfl (fun ls hl => ?_)
                                            refine lv_goto (tgt := 344) hx hb d_M_close_470 (by decide) ?_
                                            have eB15 : (lm_HK i (k + 1) (lm_H (2 * N) i (lm_E2 (2 * N) (lm_P (2 * N) (2 * N) (F, nI 0))))).1 = vp_updL (vp_updL ((lm_HK i k (lm_H (2 * N) i (lm_E2 (2 * N) (lm_P (2 * N) (2 * N) (F, nI 0))))).1) ((10 * i) + k) (lm_c2 ((lm_HK i k (lm_H (2 * N) i (lm_E2 (2 * N) (lm_P (2 * N) (2 * N) (F, nI 0))))).1 (11 * i)) ((lm_HK i k (lm_H (2 * N) i (lm_E2 (2 * N) (lm_P (2 * N) (2 * N) (F, nI 0))))).1 (11 * k)))) ((10 * k) + i) (lm_c2 ((lm_HK i k (lm_H (2 * N) i (lm_E2 (2 * N) (lm_P (2 * N) (2 * N) (F, nI 0))))).1 (11 * i)) ((lm_HK i k (lm_H (2 * N) i (lm_E2 (2 * N) (lm_P (2 * N) (2 * N) (F, nI 0))))).1 (11 * k))) := by show (lm_h i k (lm_HK i k (lm_H (2 * N) i (lm_E2 (2 * N) (lm_P (2 * N) (2 * N) (F, nI 0)))))).1 = _; unfold lm_h; rw [if_neg c12]
                                            rw [← eB15] at mD
                                            have eB16 : (lm_HK i (k + 1) (lm_H (2 * N) i (lm_E2 (2 * N) (lm_P (2 * N) (2 * N) (F, nI 0))))).2 = nI 1 := by show (lm_h i k (lm_HK i k (lm_H (2 * N) i (lm_E2 (2 * N) (lm_P (2 * N) (2 * N) (F, nI 0)))))).2 = _; unfold lm_h; rw [if_neg c12]
                                            rw [← eB16] at hl
                                            exact ih_344 (k + 1) (by omega) _ _ _ _ m0 mD hfr hP hD hS (lv_sub hl [0, 3, 1, 4, 5] rfl)
                                        refine lv_aload_n hx hb d_M_close_350 rfl (lv_at hl 4 rfl) ?_
                                        refine gf_M_17 hF hT hK hP m0 rfl d_M_close_351 ?_
                                        refine lv_bipush (v := nI 11) hx hb d_M_close_354 (by decide) ?_
                                        refine lv_iload_n hx hb d_M_close_356 rfl (lv_at hl 1 rfl) ?_
                                        refine lv_imul hx hb d_M_close_357 ?_
                                        refine gx_i (y := nI (11 * i)) (pk_mul _ _) ?_
                                        refine g_lald (t0 := 0) (k := 11 * i) hx hb hK hP mD rfl (by omega) (by omega) d_M_close_358 ?_
                                        refine lv_ldc2 (v := lr_E) hx hb hown (hts _ (hT _ wm_3_124)) d_M_close_359 ?_
                                        refine gx_leq (tgt := 383) hx hb d_M_close_362 d_M_close_363 (by decide) (fun c17 => ?_) (fun c17 => ?_)
                                        · refine lv_ldc2 (v := lr_E) hx hb hown (hts _ (hT _ wm_3_124)) d_M_close_383 ?_
                                          refine lv_goto (tgt := 417) hx hb d_M_close_386 (by decide) ?_
                                          exact gx_l (y := lm_c2 ((lm_HK i k (lm_H (2 * N) i (lm_E2 (2 * N) (lm_P (2 * N) (2 * N) (F, nI 0))))).1 (11 * i)) ((lm_HK i k (lm_H (2 * N) i (lm_E2 (2 * N) (lm_P (2 * N) (2 * N) (F, nI 0))))).1 (11 * k))) (by unfold lm_c2; simp [c17]) (mg_417 _ _ hP hD hS)
                                        · refine lv_aload_n hx hb d_M_close_366 rfl (lv_at hl 4 rfl) ?_
                                          refine gf_M_17 hF hT hK hP m0 rfl d_M_close_367 ?_
                                          refine lv_bipush (v := nI 11) hx hb d_M_close_370 (by decide) ?_
                                          refine lv_iload hx hb d_M_close_372 (lv_at hl 0 rfl) ?_
                                          refine lv_imul hx hb d_M_close_374 ?_
                                          refine gx_i (y := nI (11 * k)) (pk_mul _ _) ?_
                                          refine g_lald (t0 := 0) (k := 11 * k) hx hb hK hP mD rfl (by omega) (by omega) d_M_close_375 ?_
                                          refine lv_ldc2 (v := lr_E) hx hb hown (hts _ (hT _ wm_3_124)) d_M_close_376 ?_
                                          refine gx_lne (tgt := 389) hx hb d_M_close_379 d_M_close_380 (by decide) (fun c18 => ?_) (fun c18 => ?_)
                                          · refine lv_aload_n hx hb d_M_close_389 rfl (lv_at hl 4 rfl) ?_
                                            refine gf_M_17 hF hT hK hP m0 rfl d_M_close_390 ?_
                                            refine lv_bipush (v := nI 11) hx hb d_M_close_393 (by decide) ?_
                                            refine lv_iload_n hx hb d_M_close_395 rfl (lv_at hl 1 rfl) ?_
                                            refine lv_imul hx hb d_M_close_396 ?_
                                            refine gx_i (y := nI (11 * i)) (pk_mul _ _) ?_
                                            refine g_lald (t0 := 0) (k := 11 * i) hx hb hK hP mD rfl (by omega) (by omega) d_M_close_397 ?_
                                            refine lv_ldc2 (v := (2 : Int64)) hx hb hown (hts _ (hT _ wm_3_202)) d_M_close_398 ?_
                                            refine lv_ldiv hx hb d_M_close_401 (by decide) ?_
                                            refine lv_aload_n hx hb d_M_close_402 rfl (lv_at hl 4 rfl) ?_
                                            refine gf_M_17 hF hT hK hP m0 rfl d_M_close_403 ?_
                                            refine lv_bipush (v := nI 11) hx hb d_M_close_406 (by decide) ?_
                                            refine lv_iload hx hb d_M_close_408 (lv_at hl 0 rfl) ?_
                                            refine lv_imul hx hb d_M_close_410 ?_
                                            refine gx_i (y := nI (11 * k)) (pk_mul _ _) ?_
                                            refine g_lald (t0 := 0) (k := 11 * k) hx hb hK hP mD rfl (by omega) (by omega) d_M_close_411 ?_
                                            refine lv_ldc2 (v := (2 : Int64)) hx hb hown (hts _ (hT _ wm_3_202)) d_M_close_412 ?_
                                            refine lv_ldiv hx hb d_M_close_415 (by decide) ?_
                                            refine lv_ladd hx hb d_M_close_416 ?_
                                            exact gx_l (y := lm_c2 ((lm_HK i k (lm_H (2 * N) i (lm_E2 (2 * N) (lm_P (2 * N) (2 * N) (F, nI 0))))).1 (11 * i)) ((lm_HK i k (lm_H (2 * N) i (lm_E2 (2 * N) (lm_P (2 * N) (2 * N) (F, nI 0))))).1 (11 * k))) (by unfold lm_c2; simp [c17, c18]) (mg_417 _ _ hP hD hS)
                                          · refine lv_ldc2 (v := lr_E) hx hb hown (hts _ (hT _ wm_3_124)) d_M_close_383 ?_
                                            refine lv_goto (tgt := 417) hx hb d_M_close_386 (by decide) ?_
                                            exact gx_l (y := lm_c2 ((lm_HK i k (lm_H (2 * N) i (lm_E2 (2 * N) (lm_P (2 * N) (2 * N) (F, nI 0))))).1 (11 * i)) ((lm_HK i k (lm_H (2 * N) i (lm_E2 (2 * N) (lm_P (2 * N) (2 * N) (F, nI 0))))).1 (11 * k))) (by unfold lm_c2; simp [c17, c18]) (mg_417 _ _ hP hD hS)
                                  exact lp_344 (2 * N) 0 (by omega) _ _ _ _ m0 mD hfr hP hD hS (lv_sub hl [0, 1, 2, 3, 4] rfl)
                                · have htw : lm_tw (lm_H (2 * N) i (lm_E2 (2 * N) (lm_P (2 * N) (2 * N) (F, nI 0)))).1 i := Int64.not_le.mp c9
                                  refine lv_iconst (v := nI 0) hx hb d_M_close_339 (by decide) ?_
                                  exact gw_zret hx hb hr hlocks hK hP hD hS (Nat.le_of_ble_eq_true rfl) (Nat.le_of_ble_eq_true rfl) rfl d_M_close_340 ⟨⟨_, mD, lm_res_0 ho (lm_run_2 hrun c2 ha (i := i) (by omega) htw)⟩, hfr⟩
                          exact lp_305 (2 * N) 0 (by omega) _ _ _ _ m0 mD lt_0 hfr hP hD hS (lv_sub hl [0, 1, 2, 3] rfl)
                        · have c4 : ¬ (2 * N ≤ (2 * N)) := fun z => c4 ((nI_leI (a := (2 * N)) (b := (2 * N)) (by omega) (by omega)).mpr z)
                          exfalso; omega
                      | succ dd ih_231 =>
                        intro i e_i w H locs ls m0 mD hfr hP hD hS hl
                        refine lv_iload_n hx hb d_M_close_231 rfl (lv_at hl 0 rfl) ?_
                        refine lv_iload_n hx hb d_M_close_232 rfl (lv_at hl 2 rfl) ?_
                        refine lv_icmp_ge (tgt := 303) hx hb d_M_close_233 (by decide) (fun c19 => ?_) (fun c19 => ?_)
                        · have c19 := (nI_leI (a := (2 * N)) (b := i) (by omega) (by omega)).mp c19
                          exfalso; omega
                        · have c19 : ¬ (2 * N ≤ i) := fun z => c19 ((nI_leI (a := (2 * N)) (b := i) (by omega) (by omega)).mpr z)
                          refine lv_aload_n hx hb d_M_close_236 rfl (lv_at hl 3 rfl) ?_
                          refine gf_M_17 hF hT hK hP m0 rfl d_M_close_237 ?_
                          refine lv_bipush (v := nI 11) hx hb d_M_close_240 (by decide) ?_
                          refine lv_iload_n hx hb d_M_close_242 rfl (lv_at hl 0 rfl) ?_
                          refine lv_imul hx hb d_M_close_243 ?_
                          refine gx_i (y := nI (11 * i)) (pk_mul _ _) ?_
                          refine g_lald (t0 := 0) (k := 11 * i) hx hb hK hP mD rfl (by omega) (by omega) d_M_close_244 ?_
                          refine lv_ldc2 (v := lr_E) hx hb hown (hts _ (hT _ wm_3_124)) d_M_close_245 ?_
                          refine gx_leq (tgt := 297) hx hb d_M_close_248 d_M_close_249 (by decide) (fun c20 => ?_) (fun c20 => ?_)
                          · refine lv_iinc (v := nI (i + 1)) (lv' := [(3, .int (nI (i + 1))), (2, .int ((lm_E2 i (lm_P (2 * N) (2 * N) (F, nI 0))).2)), (1, .int (nI (2 * N))), (0, .ref (A 0))]) hx hb d_M_close_297 hl (k := 0) rfl (gx_inc _) (by decide) rfl (fun ls hl => ?_)
                            refine lv_goto (tgt := 231) hx hb d_M_close_300 (by decide) ?_
                            have eB21 : (lm_E2 (i + 1) (lm_P (2 * N) (2 * N) (F, nI 0))).1 = (lm_E2 i (lm_P (2 * N) (2 * N) (F, nI 0))).1 := by show (lm_e i (lm_E2 i (lm_P (2 * N) (2 * N) (F, nI 0)))).1 = _; unfold lm_e; rw [if_pos c20]
                            rw [← eB21] at mD
                            have eB22 : (lm_E2 (i + 1) (lm_P (2 * N) (2 * N) (F, nI 0))).2 = (lm_E2 i (lm_P (2 * N) (2 * N) (F, nI 0))).2 := by show (lm_e i (lm_E2 i (lm_P (2 * N) (2 * N) (F, nI 0)))).2 = _; unfold lm_e; rw [if_pos c20]
                            rw [← eB22] at hl
                            exact ih_231 (i + 1) (by omega) _ _ _ _ m0 mD hfr hP hD hS (lv_sub hl [0, 1, 2, 3] rfl)
                          · refine lv_aload_n hx hb d_M_close_252 rfl (lv_at hl 3 rfl) ?_
                            refine gf_M_17 hF hT hK hP m0 rfl d_M_close_253 ?_
                            refine lv_bipush (v := nI 11) hx hb d_M_close_256 (by decide) ?_
                            refine lv_iload_n hx hb d_M_close_258 rfl (lv_at hl 0 rfl) ?_
                            refine lv_imul hx hb d_M_close_259 ?_
                            refine gx_i (y := nI (11 * i)) (pk_mul _ _) ?_
                            refine g_lald (t0 := 0) (k := 11 * i) hx hb hK hP mD rfl (by omega) (by omega) d_M_close_260 ?_
                            refine lv_ldc2 (v := (2 : Int64)) hx hb hown (hts _ (hT _ wm_3_202)) d_M_close_261 ?_
                            refine lv_lrem hx hb d_M_close_264 (by decide) ?_
                            refine lv_lconst (v := 0) hx hb d_M_close_265 rfl ?_
                            refine gx_leq (tgt := 297) hx hb d_M_close_266 d_M_close_267 (by decide) (fun c23 => ?_) (fun c23 => ?_)
                            · refine lv_iinc (v := nI (i + 1)) (lv' := [(3, .int (nI (i + 1))), (2, .int ((lm_E2 i (lm_P (2 * N) (2 * N) (F, nI 0))).2)), (1, .int (nI (2 * N))), (0, .ref (A 0))]) hx hb d_M_close_297 hl (k := 0) rfl (gx_inc _) (by decide) rfl (fun ls hl => ?_)
                              refine lv_goto (tgt := 231) hx hb d_M_close_300 (by decide) ?_
                              have eB24 : (lm_E2 (i + 1) (lm_P (2 * N) (2 * N) (F, nI 0))).1 = (lm_E2 i (lm_P (2 * N) (2 * N) (F, nI 0))).1 := by show (lm_e i (lm_E2 i (lm_P (2 * N) (2 * N) (F, nI 0)))).1 = _; unfold lm_e; rw [if_neg c20, if_pos c23]
                              rw [← eB24] at mD
                              have eB25 : (lm_E2 (i + 1) (lm_P (2 * N) (2 * N) (F, nI 0))).2 = (lm_E2 i (lm_P (2 * N) (2 * N) (F, nI 0))).2 := by show (lm_e i (lm_E2 i (lm_P (2 * N) (2 * N) (F, nI 0)))).2 = _; unfold lm_e; rw [if_neg c20, if_pos c23]
                              rw [← eB25] at hl
                              exact ih_231 (i + 1) (by omega) _ _ _ _ m0 mD hfr hP hD hS (lv_sub hl [0, 1, 2, 3] rfl)
                            · refine lv_aload_n hx hb d_M_close_270 rfl (lv_at hl 3 rfl) ?_
                              refine gf_M_17 hF hT hK hP m0 rfl d_M_close_271 ?_
                              refine lv_bipush (v := nI 11) hx hb d_M_close_274 (by decide) ?_
                              refine lv_iload_n hx hb d_M_close_276 rfl (lv_at hl 0 rfl) ?_
                              refine lv_imul hx hb d_M_close_277 ?_
                              refine gx_i (y := nI (11 * i)) (pk_mul _ _) ?_
                              refine lv_ldc2 (v := (2 : Int64)) hx hb hown (hts _ (hT _ wm_3_202)) d_M_close_278 ?_
                              refine lv_aload_n hx hb d_M_close_281 rfl (lv_at hl 3 rfl) ?_
                              refine gf_M_17 hF hT hK hP m0 rfl d_M_close_282 ?_
                              refine lv_bipush (v := nI 11) hx hb d_M_close_285 (by decide) ?_
                              refine lv_iload_n hx hb d_M_close_287 rfl (lv_at hl 0 rfl) ?_
                              refine lv_imul hx hb d_M_close_288 ?_
                              refine gx_i (y := nI (11 * i)) (pk_mul _ _) ?_
                              refine g_lald (t0 := 0) (k := 11 * i) hx hb hK hP mD rfl (by omega) (by omega) d_M_close_289 ?_
                              refine gw_cl0 (gc_M_61 (As := [.long (((lm_E2 i (lm_P (2 * N) (2 * N) (F, nI 0))).1) (11 * i))]) (rest := [.long (2 : Int64), .int (nI (11 * i)), .ref (A 3)]) hF hT (c_M_half) ⟨(Nat.le_of_ble_eq_true rfl), (Nat.le_of_ble_eq_true rfl)⟩ rfl rfl hK hN hP hD rfl hl.1 rfl (Nat.le_of_ble_eq_true rfl) d_M_close_290 ⟨(Nat.le_of_ble_eq_true rfl), (Nat.le_of_ble_eq_true rfl)⟩) hD hS hA (fun r26 H locs e_r26 hP hD hS => ?_)
                              subst e_r26
                              refine lv_lmul hx hb d_M_close_293 ?_
                              refine g_last (t0 := 0) (k := 11 * i) hx hb hK hP hD hS mD rfl (by omega) (by omega) d_M_close_294 (fun w H locs mD hf hP hD hS => ?_)
                              have m0 := hf.at m0 (by omega)
                              have hfr := hfr.in hf (by omega) (by omega)
                              refine lv_iconst (v := nI 1) hx hb d_M_close_295 (by decide) ?_
                              refine lv_istore_n (lv' := [(2, .int (nI 1)), (3, .int (nI i)), (1, .int (nI (2 * N))), (0, .ref (A 0))]) hx hb d_M_close_296 rfl hl (by decide) rfl (fun ls hl => ?_)
                              refine lv_iinc (v := nI (i + 1)) (lv' := [(3, .int (nI (i + 1))), (2, .int (nI 1)), (1, .int (nI (2 * N))), (0, .ref (A 0))]) hx hb d_M_close_297 hl (k := 1) rfl (gx_inc _) (by decide) rfl (fun ls hl => ?_)
                              refine lv_goto (tgt := 231) hx hb d_M_close_300 (by decide) ?_
                              have eB27 : (lm_E2 (i + 1) (lm_P (2 * N) (2 * N) (F, nI 0))).1 = vp_updL ((lm_E2 i (lm_P (2 * N) (2 * N) (F, nI 0))).1) (11 * i) ((2 : Int64) * (lm_half (((lm_E2 i (lm_P (2 * N) (2 * N) (F, nI 0))).1) (11 * i)))) := by show (lm_e i (lm_E2 i (lm_P (2 * N) (2 * N) (F, nI 0)))).1 = _; unfold lm_e; rw [if_neg c20, if_neg c23]
                              rw [← eB27] at mD
                              have eB28 : (lm_E2 (i + 1) (lm_P (2 * N) (2 * N) (F, nI 0))).2 = nI 1 := by show (lm_e i (lm_E2 i (lm_P (2 * N) (2 * N) (F, nI 0)))).2 = _; unfold lm_e; rw [if_neg c20, if_neg c23]
                              rw [← eB28] at hl
                              exact ih_231 (i + 1) (by omega) _ _ _ _ m0 mD hfr hP hD hS (lv_sub hl [0, 1, 2, 3] rfl)
                    exact lp_231 (2 * N) 0 (by omega) _ _ _ _ m0 mD hfr hP hD hS (lv_sub hl [0, 1, 2, 3] rfl)
                  · have c3 : ¬ (2 * N ≤ (2 * N)) := fun z => c3 ((nI_leI (a := (2 * N)) (b := (2 * N)) (by omega) (by omega)).mpr z)
                    exfalso; omega
                | succ dd ih_67 =>
                  intro j e_j w H locs ls m0 mD ha hfr hP hD hS hl
                  refine lv_iload_n hx hb d_M_close_67 rfl (lv_at hl 0 rfl) ?_
                  refine lv_iload_n hx hb d_M_close_68 rfl (lv_at hl 2 rfl) ?_
                  refine lv_icmp_ge (tgt := 229) hx hb d_M_close_69 (by decide) (fun c29 => ?_) (fun c29 => ?_)
                  · have c29 := (nI_leI (a := (2 * N)) (b := j) (by omega) (by omega)).mp c29
                    exfalso; omega
                  · have c29 : ¬ (2 * N ≤ j) := fun z => c29 ((nI_leI (a := (2 * N)) (b := j) (by omega) (by omega)).mpr z)
                    refine lv_iconst (v := nI 0) hx hb d_M_close_72 (by decide) ?_
                    refine lv_istore (lv' := [(4, .int (nI 0)), (3, .int (nI j)), (2, .int ((lm_P (2 * N) j (F, nI 0)).2)), (1, .int (nI (2 * N))), (0, .ref (A 0))]) hx hb d_M_close_73 hl (by decide) rfl (fun ls hl => ?_)
                    have lp_75 : ∀ (dd i : Nat), i + dd = (2 * N) → ∀ (w : va_W) (H : Heap) (locs : List Loc) (ls : Array Slot), w[b]? = some (A 0, .inr (3, [.int th, .int (nI N), .ref (A 1), .ref (A 2), .ref (A 3), .ref (A 4), .ref (A 5), .ref (A 6), .int (nI nm), .ref (A 7), .ref (A 8), .ref (A 9), .ref (A 10)])) → w[b + 3]? = some (A 3, .inl (cJ, 100, .inr (.inl ((lm_I (2 * N) j i (lm_P (2 * N) j (F, nI 0))).1)))) → gF (b + 3) (b + 4) ws w → va_P D classes w H → va_D (va_A ws sz) w → va_S (va_A ws sz) s.heap H locs → lv_has ls 8 [(4, .int (nI i)), (3, .int (nI j)), (2, .int ((lm_I (2 * N) j i (lm_P (2 * N) j (F, nI 0))).2)), (1, .int (nI (2 * N))), (0, .ref (A 0))] → W p l e ({ frames := 2, cells := 0, slots := 0, locals := 23 } : Room) s m ([.ref (A 0)] : List Value).toArray below meth c H locs 0 0 (MQ below (va_Qi (fun r w => (∃ F, w[b + 3]? = some (A 3, .inl (cJ, 100, .inr (.inl F))) ∧ lm_res N o F r) ∧ gF (b + 3) (b + 4) ws w) (gw_B D classes (gT cJ cI cZ cS) ws sz) (va_A ws sz)) ([.ref (A 0)] : List Value).toArray s 0 0 (va_A ws sz)) (F0 m 75 ls []) := by
                      intro dd
                      induction dd with
                      | zero =>
                        intro i e_i w H locs ls m0 mD hfr hP hD hS hl
                        have e0_i : (2 * N) = i := by omega
                        subst e0_i
                        refine lv_iload hx hb d_M_close_75 (lv_at hl 0 rfl) ?_
                        refine lv_iload_n hx hb d_M_close_77 rfl (lv_at hl 3 rfl) ?_
                        refine lv_icmp_ge (tgt := 185) hx hb d_M_close_78 (by decide) (fun c30 => ?_) (fun c30 => ?_)
                        · have c30 := (nI_leI (a := (2 * N)) (b := (2 * N)) (by omega) (by omega)).mp c30
                          refine lv_iconst (v := nI 0) hx hb d_M_close_185 (by decide) ?_
                          refine lv_istore (lv' := [(4, .int (nI 0)), (3, .int (nI j)), (2, .int ((lm_I (2 * N) j (2 * N) (lm_P (2 * N) j (F, nI 0))).2)), (1, .int (nI (2 * N))), (0, .ref (A 0))]) hx hb d_M_close_186 hl (by decide) rfl (fun ls hl => ?_)
                          have lp_188 : ∀ (dd i : Nat), i + dd = (2 * N) → ∀ (w : va_W) (H : Heap) (locs : List Loc) (ls : Array Slot), w[b]? = some (A 0, .inr (3, [.int th, .int (nI N), .ref (A 1), .ref (A 2), .ref (A 3), .ref (A 4), .ref (A 5), .ref (A 6), .int (nI nm), .ref (A 7), .ref (A 8), .ref (A 9), .ref (A 10)])) → w[b + 3]? = some (A 3, .inl (cJ, 100, .inr (.inl ((lm_I (2 * N) j (2 * N) (lm_P (2 * N) j (F, nI 0))).1)))) → (∀ a, a < i → ¬ (lm_P (2 * N) (j + 1) (F, nI 0)).1 (10 * a + lr_op a) < 0) → gF (b + 3) (b + 4) ws w → va_P D classes w H → va_D (va_A ws sz) w → va_S (va_A ws sz) s.heap H locs → lv_has ls 8 [(4, .int (nI i)), (3, .int (nI j)), (2, .int ((lm_I (2 * N) j (2 * N) (lm_P (2 * N) j (F, nI 0))).2)), (1, .int (nI (2 * N))), (0, .ref (A 0))] → W p l e ({ frames := 2, cells := 0, slots := 0, locals := 23 } : Room) s m ([.ref (A 0)] : List Value).toArray below meth c H locs 0 0 (MQ below (va_Qi (fun r w => (∃ F, w[b + 3]? = some (A 3, .inl (cJ, 100, .inr (.inl F))) ∧ lm_res N o F r) ∧ gF (b + 3) (b + 4) ws w) (gw_B D classes (gT cJ cI cZ cS) ws sz) (va_A ws sz)) ([.ref (A 0)] : List Value).toArray s 0 0 (va_A ws sz)) (F0 m 188 ls []) := by
                            intro dd
                            induction dd with
                            | zero =>
                              intro i e_i w H locs ls m0 mD hq1 hfr hP hD hS hl
                              have e0_i : (2 * N) = i := by omega
                              subst e0_i
                              refine lv_iload hx hb d_M_close_188 (lv_at hl 0 rfl) ?_
                              refine lv_iload_n hx hb d_M_close_190 rfl (lv_at hl 3 rfl) ?_
                              refine lv_icmp_ge (tgt := 223) hx hb d_M_close_191 (by decide) (fun c31 => ?_) (fun c31 => ?_)
                              · have c31 := (nI_leI (a := (2 * N)) (b := (2 * N)) (by omega) (by omega)).mp c31
                                refine lv_iinc (v := nI (j + 1)) (lv' := [(3, .int (nI (j + 1))), (4, .int (nI (2 * N))), (2, .int ((lm_I (2 * N) j (2 * N) (lm_P (2 * N) j (F, nI 0))).2)), (1, .int (nI (2 * N))), (0, .ref (A 0))]) hx hb d_M_close_223 hl (k := 1) rfl (gx_inc _) (by decide) rfl (fun ls hl => ?_)
                                refine lv_goto (tgt := 67) hx hb d_M_close_226 (by decide) ?_
                                exact ih_67 (j + 1) (by omega) _ _ _ _ m0 mD (lt_s ha (fun ⟨a, h1, h2⟩ => hq1 a h1 h2)) hfr hP hD hS (lv_sub hl [0, 2, 3, 4] rfl)
                              · have c31 : ¬ (2 * N ≤ (2 * N)) := fun z => c31 ((nI_leI (a := (2 * N)) (b := (2 * N)) (by omega) (by omega)).mpr z)
                                exfalso; omega
                            | succ dd ih_188 =>
                              intro i e_i w H locs ls m0 mD hq1 hfr hP hD hS hl
                              refine lv_iload hx hb d_M_close_188 (lv_at hl 0 rfl) ?_
                              refine lv_iload_n hx hb d_M_close_190 rfl (lv_at hl 3 rfl) ?_
                              refine lv_icmp_ge (tgt := 223) hx hb d_M_close_191 (by decide) (fun c32 => ?_) (fun c32 => ?_)
                              · have c32 := (nI_leI (a := (2 * N)) (b := i) (by omega) (by omega)).mp c32
                                exfalso; omega
                              · have c32 : ¬ (2 * N ≤ i) := fun z => c32 ((nI_leI (a := (2 * N)) (b := i) (by omega) (by omega)).mpr z)
                                refine lv_aload_n hx hb d_M_close_194 rfl (lv_at hl 4 rfl) ?_
                                refine gf_M_17 hF hT hK hP m0 rfl d_M_close_195 ?_
                                refine lv_bipush (v := nI 10) hx hb d_M_close_198 (by decide) ?_
                                refine lv_iload hx hb d_M_close_200 (lv_at hl 0 rfl) ?_
                                refine lv_imul hx hb d_M_close_202 ?_
                                refine gx_i (y := nI (10 * i)) (pk_mul _ _) ?_
                                refine lv_iload hx hb d_M_close_203 (lv_at hl 0 rfl) ?_
                                refine gw_ci0 (gc_M_53 (As := [.int (nI i)]) (rest := [.int (nI (10 * i)), .ref (A 3)]) hF hT (c_M_opposite (by omega)) ⟨(Nat.le_of_ble_eq_true rfl), (Nat.le_of_ble_eq_true rfl)⟩ rfl rfl hK hN hP hD rfl hl.1 rfl (Nat.le_of_ble_eq_true rfl) d_M_close_205 ⟨(Nat.le_of_ble_eq_true rfl), (Nat.le_of_ble_eq_true rfl)⟩) hD hS hA (fun r33 H locs e_r33 hP hD hS => ?_)
                                subst e_r33
                                have hop := lr_op_ev (x := 5) (i := i) (by omega)
                                refine lv_iadd hx hb d_M_close_208 ?_
                                refine gx_i (y := nI ((10 * i) + (lr_op i))) (nI_add _ _) ?_
                                refine g_lald (t0 := 0) (k := (10 * i) + (lr_op i)) hx hb hK hP mD rfl (by omega) (by omega) d_M_close_209 ?_
                                refine lv_lconst (v := 0) hx hb d_M_close_210 rfl ?_
                                refine gx_lge (tgt := 217) hx hb d_M_close_211 d_M_close_212 (by decide) (fun c34 => ?_) (fun c34 => ?_)
                                · refine lv_iinc (v := nI (i + 1)) (lv' := [(4, .int (nI (i + 1))), (3, .int (nI j)), (2, .int ((lm_I (2 * N) j (2 * N) (lm_P (2 * N) j (F, nI 0))).2)), (1, .int (nI (2 * N))), (0, .ref (A 0))]) hx hb d_M_close_217 hl (k := 0) rfl (gx_inc _) (by decide) rfl (fun ls hl => ?_)
                                  refine lv_goto (tgt := 188) hx hb d_M_close_220 (by decide) ?_
                                  exact ih_188 (i + 1) (by omega) _ _ _ _ m0 mD (lt_s hq1 (Int64.not_lt.mpr c34)) hfr hP hD hS (lv_sub hl [0, 1, 2, 3, 4] rfl)
                                · refine lv_iconst (v := nI 0) hx hb d_M_close_215 (by decide) ?_
                                  exact gw_zret hx hb hr hlocks hK hP hD hS (Nat.le_of_ble_eq_true rfl) (Nat.le_of_ble_eq_true rfl) rfl d_M_close_216 ⟨⟨_, mD, lm_res_0 ho (lm_run_1 hrun c2 (j := j) (by omega) ⟨i, by omega, Int64.not_le.mp c34⟩)⟩, hfr⟩
                          exact lp_188 (2 * N) 0 (by omega) _ _ _ _ m0 mD lt_0 hfr hP hD hS (lv_sub hl [0, 1, 2, 3, 4] rfl)
                        · have c30 : ¬ (2 * N ≤ (2 * N)) := fun z => c30 ((nI_leI (a := (2 * N)) (b := (2 * N)) (by omega) (by omega)).mpr z)
                          exfalso; omega
                      | succ dd ih_75 =>
                        intro i e_i w H locs ls m0 mD hfr hP hD hS hl
                        refine lv_iload hx hb d_M_close_75 (lv_at hl 0 rfl) ?_
                        refine lv_iload_n hx hb d_M_close_77 rfl (lv_at hl 3 rfl) ?_
                        refine lv_icmp_ge (tgt := 185) hx hb d_M_close_78 (by decide) (fun c35 => ?_) (fun c35 => ?_)
                        · have c35 := (nI_leI (a := (2 * N)) (b := i) (by omega) (by omega)).mp c35
                          exfalso; omega
                        · have c35 : ¬ (2 * N ≤ i) := fun z => c35 ((nI_leI (a := (2 * N)) (b := i) (by omega) (by omega)).mpr z)
                          refine lv_iconst (v := nI 0) hx hb d_M_close_81 (by decide) ?_
                          refine lv_istore (lv' := [(5, .int (nI 0)), (4, .int (nI i)), (3, .int (nI j)), (2, .int ((lm_I (2 * N) j i (lm_P (2 * N) j (F, nI 0))).2)), (1, .int (nI (2 * N))), (0, .ref (A 0))]) hx hb d_M_close_82 hl (by decide) rfl (fun ls hl => ?_)
                          have lp_84 : ∀ (dd k : Nat), k + dd = (2 * N) → ∀ (w : va_W) (H : Heap) (locs : List Loc) (ls : Array Slot), w[b]? = some (A 0, .inr (3, [.int th, .int (nI N), .ref (A 1), .ref (A 2), .ref (A 3), .ref (A 4), .ref (A 5), .ref (A 6), .int (nI nm), .ref (A 7), .ref (A 8), .ref (A 9), .ref (A 10)])) → w[b + 3]? = some (A 3, .inl (cJ, 100, .inr (.inl ((lm_K i j k (lm_I (2 * N) j i (lm_P (2 * N) j (F, nI 0)))).1)))) → gF (b + 3) (b + 4) ws w → va_P D classes w H → va_D (va_A ws sz) w → va_S (va_A ws sz) s.heap H locs → lv_has ls 8 [(5, .int (nI k)), (4, .int (nI i)), (3, .int (nI j)), (2, .int ((lm_K i j k (lm_I (2 * N) j i (lm_P (2 * N) j (F, nI 0)))).2)), (1, .int (nI (2 * N))), (0, .ref (A 0))] → W p l e ({ frames := 2, cells := 0, slots := 0, locals := 23 } : Room) s m ([.ref (A 0)] : List Value).toArray below meth c H locs 0 0 (MQ below (va_Qi (fun r w => (∃ F, w[b + 3]? = some (A 3, .inl (cJ, 100, .inr (.inl F))) ∧ lm_res N o F r) ∧ gF (b + 3) (b + 4) ws w) (gw_B D classes (gT cJ cI cZ cS) ws sz) (va_A ws sz)) ([.ref (A 0)] : List Value).toArray s 0 0 (va_A ws sz)) (F0 m 84 ls []) := by
                            intro dd
                            induction dd with
                            | zero =>
                              intro k e_k w H locs ls m0 mD hfr hP hD hS hl
                              have e0_k : (2 * N) = k := by omega
                              subst e0_k
                              refine lv_iload hx hb d_M_close_84 (lv_at hl 0 rfl) ?_
                              refine lv_iload_n hx hb d_M_close_86 rfl (lv_at hl 4 rfl) ?_
                              refine lv_icmp_ge (tgt := 179) hx hb d_M_close_87 (by decide) (fun c36 => ?_) (fun c36 => ?_)
                              · have c36 := (nI_leI (a := (2 * N)) (b := (2 * N)) (by omega) (by omega)).mp c36
                                refine lv_iinc (v := nI (i + 1)) (lv' := [(4, .int (nI (i + 1))), (5, .int (nI (2 * N))), (3, .int (nI j)), (2, .int ((lm_K i j (2 * N) (lm_I (2 * N) j i (lm_P (2 * N) j (F, nI 0)))).2)), (1, .int (nI (2 * N))), (0, .ref (A 0))]) hx hb d_M_close_179 hl (k := 1) rfl (gx_inc _) (by decide) rfl (fun ls hl => ?_)
                                refine lv_goto (tgt := 75) hx hb d_M_close_182 (by decide) ?_
                                exact ih_75 (i + 1) (by omega) _ _ _ _ m0 mD hfr hP hD hS (lv_sub hl [0, 2, 3, 4, 5] rfl)
                              · have c36 : ¬ (2 * N ≤ (2 * N)) := fun z => c36 ((nI_leI (a := (2 * N)) (b := (2 * N)) (by omega) (by omega)).mpr z)
                                exfalso; omega
                            | succ dd ih_84 =>
                              intro k e_k w H locs ls m0 mD hfr hP hD hS hl
                              refine lv_iload hx hb d_M_close_84 (lv_at hl 0 rfl) ?_
                              refine lv_iload_n hx hb d_M_close_86 rfl (lv_at hl 4 rfl) ?_
                              refine lv_icmp_ge (tgt := 179) hx hb d_M_close_87 (by decide) (fun c37 => ?_) (fun c37 => ?_)
                              · have c37 := (nI_leI (a := (2 * N)) (b := k) (by omega) (by omega)).mp c37
                                exfalso; omega
                              · have c37 : ¬ (2 * N ≤ k) := fun z => c37 ((nI_leI (a := (2 * N)) (b := k) (by omega) (by omega)).mpr z)
                                refine lv_aload_n hx hb d_M_close_90 rfl (lv_at hl 5 rfl) ?_
                                refine gf_M_17 hF hT hK hP m0 rfl d_M_close_91 ?_
                                refine lv_bipush (v := nI 10) hx hb d_M_close_94 (by decide) ?_
                                refine lv_iload hx hb d_M_close_96 (lv_at hl 1 rfl) ?_
                                refine lv_imul hx hb d_M_close_98 ?_
                                refine gx_i (y := nI (10 * i)) (pk_mul _ _) ?_
                                refine lv_iload_n hx hb d_M_close_99 rfl (lv_at hl 2 rfl) ?_
                                refine lv_iadd hx hb d_M_close_100 ?_
                                refine gx_i (y := nI ((10 * i) + j)) (nI_add _ _) ?_
                                refine g_lald (t0 := 0) (k := (10 * i) + j) hx hb hK hP mD rfl (by omega) (by omega) d_M_close_101 ?_
                                refine lv_aload_n hx hb d_M_close_102 rfl (lv_at hl 5 rfl) ?_
                                refine gf_M_17 hF hT hK hP m0 rfl d_M_close_103 ?_
                                refine lv_bipush (v := nI 10) hx hb d_M_close_106 (by decide) ?_
                                refine lv_iload_n hx hb d_M_close_108 rfl (lv_at hl 2 rfl) ?_
                                refine gw_ci0 (gc_M_53 (As := [.int (nI j)]) (rest := [.int (nI 10), .ref (A 3), .long (((lm_K i j k (lm_I (2 * N) j i (lm_P (2 * N) j (F, nI 0)))).1) ((10 * i) + j))]) hF hT (c_M_opposite (by omega)) ⟨(Nat.le_of_ble_eq_true rfl), (Nat.le_of_ble_eq_true rfl)⟩ rfl rfl hK hN hP hD rfl hl.1 rfl (Nat.le_of_ble_eq_true rfl) d_M_close_109 ⟨(Nat.le_of_ble_eq_true rfl), (Nat.le_of_ble_eq_true rfl)⟩) hD hS hA (fun r38 H locs e_r38 hP hD hS => ?_)
                                subst e_r38
                                have hop := lr_op_ev (x := 5) (i := j) (by omega)
                                refine lv_imul hx hb d_M_close_112 ?_
                                refine gx_i (y := nI (10 * (lr_op j))) (pk_mul _ _) ?_
                                refine lv_iload hx hb d_M_close_113 (lv_at hl 0 rfl) ?_
                                refine lv_iadd hx hb d_M_close_115 ?_
                                refine gx_i (y := nI ((10 * (lr_op j)) + k)) (nI_add _ _) ?_
                                refine g_lald (t0 := 0) (k := (10 * (lr_op j)) + k) hx hb hK hP mD rfl (by omega) (by omega) d_M_close_116 ?_
                                refine gw_cl0 (gc_M_57 (As := [.long (((lm_K i j k (lm_I (2 * N) j i (lm_P (2 * N) j (F, nI 0)))).1) ((10 * i) + j)), .long (((lm_K i j k (lm_I (2 * N) j i (lm_P (2 * N) j (F, nI 0)))).1) ((10 * (lr_op j)) + k))]) (rest := []) hF hT (c_M_sum) ⟨(Nat.le_of_ble_eq_true rfl), (Nat.le_of_ble_eq_true rfl)⟩ rfl rfl hK hN hP hD rfl hl.1 rfl (Nat.le_of_ble_eq_true rfl) d_M_close_117 ⟨(Nat.le_of_ble_eq_true rfl), (Nat.le_of_ble_eq_true rfl)⟩) hD hS hA (fun r39 H locs e_r39 hP hD hS => ?_)
                                subst e_r39
                                refine lv_lstore (lv' := [(6, .long (lr_plus (((lm_K i j k (lm_I (2 * N) j i (lm_P (2 * N) j (F, nI 0)))).1) ((10 * i) + j)) (((lm_K i j k (lm_I (2 * N) j i (lm_P (2 * N) j (F, nI 0)))).1) ((10 * (lr_op j)) + k)))), (5, .int (nI k)), (4, .int (nI i)), (3, .int (nI j)), (2, .int ((lm_K i j k (lm_I (2 * N) j i (lm_P (2 * N) j (F, nI 0)))).2)), (1, .int (nI (2 * N))), (0, .ref (A 0))]) hx hb d_M_close_120 hl (by decide) rfl (fun ls hl => ?_)
                                refine lv_lload hx hb d_M_close_122 (lv_at hl 0 rfl) ?_
                                refine lv_aload_n hx hb d_M_close_124 rfl (lv_at hl 6 rfl) ?_
                                refine gf_M_17 hF hT hK hP m0 rfl d_M_close_125 ?_
                                refine lv_bipush (v := nI 10) hx hb d_M_close_128 (by decide) ?_
                                refine lv_iload hx hb d_M_close_130 (lv_at hl 2 rfl) ?_
                                refine lv_imul hx hb d_M_close_132 ?_
                                refine gx_i (y := nI (10 * i)) (pk_mul _ _) ?_
                                refine lv_iload hx hb d_M_close_133 (lv_at hl 1 rfl) ?_
                                refine lv_iadd hx hb d_M_close_135 ?_
                                refine gx_i (y := nI ((10 * i) + k)) (nI_add _ _) ?_
                                refine g_lald (t0 := 0) (k := (10 * i) + k) hx hb hK hP mD rfl (by omega) (by omega) d_M_close_136 ?_
                                refine gx_lge (tgt := 173) hx hb d_M_close_137 d_M_close_138 (by decide) (fun c40 => ?_) (fun c40 => ?_)
                                · refine lv_iinc (v := nI (k + 1)) (lv' := [(5, .int (nI (k + 1))), (6, .long (lr_plus (((lm_K i j k (lm_I (2 * N) j i (lm_P (2 * N) j (F, nI 0)))).1) ((10 * i) + j)) (((lm_K i j k (lm_I (2 * N) j i (lm_P (2 * N) j (F, nI 0)))).1) ((10 * (lr_op j)) + k)))), (4, .int (nI i)), (3, .int (nI j)), (2, .int ((lm_K i j k (lm_I (2 * N) j i (lm_P (2 * N) j (F, nI 0)))).2)), (1, .int (nI (2 * N))), (0, .ref (A 0))]) hx hb d_M_close_173 hl (k := 1) rfl (gx_inc _) (by decide) rfl (fun ls hl => ?_)
                                  refine lv_goto (tgt := 84) hx hb d_M_close_176 (by decide) ?_
                                  have eB41 : (lm_K i j (k + 1) (lm_I (2 * N) j i (lm_P (2 * N) j (F, nI 0)))).1 = (lm_K i j k (lm_I (2 * N) j i (lm_P (2 * N) j (F, nI 0)))).1 := by show (lm_k i j k (lm_K i j k (lm_I (2 * N) j i (lm_P (2 * N) j (F, nI 0))))).1 = _; unfold lm_k; rw [if_pos c40]
                                  rw [← eB41] at mD
                                  have eB42 : (lm_K i j (k + 1) (lm_I (2 * N) j i (lm_P (2 * N) j (F, nI 0)))).2 = (lm_K i j k (lm_I (2 * N) j i (lm_P (2 * N) j (F, nI 0)))).2 := by show (lm_k i j k (lm_K i j k (lm_I (2 * N) j i (lm_P (2 * N) j (F, nI 0))))).2 = _; unfold lm_k; rw [if_pos c40]
                                  rw [← eB42] at hl
                                  exact ih_84 (k + 1) (by omega) _ _ _ _ m0 mD hfr hP hD hS (lv_sub hl [0, 2, 3, 4, 5, 6] rfl)
                                · refine lv_aload_n hx hb d_M_close_141 rfl (lv_at hl 6 rfl) ?_
                                  refine gf_M_17 hF hT hK hP m0 rfl d_M_close_142 ?_
                                  refine lv_bipush (v := nI 10) hx hb d_M_close_145 (by decide) ?_
                                  refine lv_iload hx hb d_M_close_147 (lv_at hl 2 rfl) ?_
                                  refine lv_imul hx hb d_M_close_149 ?_
                                  refine gx_i (y := nI (10 * i)) (pk_mul _ _) ?_
                                  refine lv_iload hx hb d_M_close_150 (lv_at hl 1 rfl) ?_
                                  refine lv_iadd hx hb d_M_close_152 ?_
                                  refine gx_i (y := nI ((10 * i) + k)) (nI_add _ _) ?_
                                  refine lv_lload hx hb d_M_close_153 (lv_at hl 0 rfl) ?_
                                  refine g_last (t0 := 0) (k := (10 * i) + k) hx hb hK hP hD hS mD rfl (by omega) (by omega) d_M_close_155 (fun w H locs mD hf hP hD hS => ?_)
                                  have m0 := hf.at m0 (by omega)
                                  have hfr := hfr.in hf (by omega) (by omega)
                                  refine lv_aload_n hx hb d_M_close_156 rfl (lv_at hl 6 rfl) ?_
                                  refine gf_M_17 hF hT hK hP m0 rfl d_M_close_157 ?_
                                  refine lv_bipush (v := nI 10) hx hb d_M_close_160 (by decide) ?_
                                  refine lv_iload hx hb d_M_close_162 (lv_at hl 1 rfl) ?_
                                  refine lv_imul hx hb d_M_close_164 ?_
                                  refine gx_i (y := nI (10 * k)) (pk_mul _ _) ?_
                                  refine lv_iload hx hb d_M_close_165 (lv_at hl 2 rfl) ?_
                                  refine lv_iadd hx hb d_M_close_167 ?_
                                  refine gx_i (y := nI ((10 * k) + i)) (nI_add _ _) ?_
                                  refine lv_lload hx hb d_M_close_168 (lv_at hl 0 rfl) ?_
                                  refine g_last (t0 := 0) (k := (10 * k) + i) hx hb hK hP hD hS mD rfl (by omega) (by omega) d_M_close_170 (fun w H locs mD hf hP hD hS => ?_)
                                  have m0 := hf.at m0 (by omega)
                                  have hfr := hfr.in hf (by omega) (by omega)
                                  refine lv_iconst (v := nI 1) hx hb d_M_close_171 (by decide) ?_
                                  refine lv_istore_n (lv' := [(2, .int (nI 1)), (6, .long (lr_plus (((lm_K i j k (lm_I (2 * N) j i (lm_P (2 * N) j (F, nI 0)))).1) ((10 * i) + j)) (((lm_K i j k (lm_I (2 * N) j i (lm_P (2 * N) j (F, nI 0)))).1) ((10 * (lr_op j)) + k)))), (5, .int (nI k)), (4, .int (nI i)), (3, .int (nI j)), (1, .int (nI (2 * N))), (0, .ref (A 0))]) hx hb d_M_close_172 rfl hl (by decide) rfl (fun ls hl => ?_)
                                  refine lv_iinc (v := nI (k + 1)) (lv' := [(5, .int (nI (k + 1))), (2, .int (nI 1)), (6, .long (lr_plus (((lm_K i j k (lm_I (2 * N) j i (lm_P (2 * N) j (F, nI 0)))).1) ((10 * i) + j)) (((lm_K i j k (lm_I (2 * N) j i (lm_P (2 * N) j (F, nI 0)))).1) ((10 * (lr_op j)) + k)))), (4, .int (nI i)), (3, .int (nI j)), (1, .int (nI (2 * N))), (0, .ref (A 0))]) hx hb d_M_close_173 hl (k := 2) rfl (gx_inc _) (by decide) rfl (fun ls hl => ?_)
                                  refine lv_goto (tgt := 84) hx hb d_M_close_176 (by decide) ?_
                                  have eB43 : (lm_K i j (k + 1) (lm_I (2 * N) j i (lm_P (2 * N) j (F, nI 0)))).1 = vp_updL (vp_updL ((lm_K i j k (lm_I (2 * N) j i (lm_P (2 * N) j (F, nI 0)))).1) ((10 * i) + k) (lr_plus (((lm_K i j k (lm_I (2 * N) j i (lm_P (2 * N) j (F, nI 0)))).1) ((10 * i) + j)) (((lm_K i j k (lm_I (2 * N) j i (lm_P (2 * N) j (F, nI 0)))).1) ((10 * (lr_op j)) + k)))) ((10 * k) + i) (lr_plus (((lm_K i j k (lm_I (2 * N) j i (lm_P (2 * N) j (F, nI 0)))).1) ((10 * i) + j)) (((lm_K i j k (lm_I (2 * N) j i (lm_P (2 * N) j (F, nI 0)))).1) ((10 * (lr_op j)) + k))) := by show (lm_k i j k (lm_K i j k (lm_I (2 * N) j i (lm_P (2 * N) j (F, nI 0))))).1 = _; unfold lm_k; rw [if_neg c40]
                                  rw [← eB43] at mD
                                  have eB44 : (lm_K i j (k + 1) (lm_I (2 * N) j i (lm_P (2 * N) j (F, nI 0)))).2 = nI 1 := by show (lm_k i j k (lm_K i j k (lm_I (2 * N) j i (lm_P (2 * N) j (F, nI 0))))).2 = _; unfold lm_k; rw [if_neg c40]
                                  rw [← eB44] at hl
                                  exact ih_84 (k + 1) (by omega) _ _ _ _ m0 mD hfr hP hD hS (lv_sub hl [0, 3, 4, 1, 5, 6] rfl)
                          exact lp_84 (2 * N) 0 (by omega) _ _ _ _ m0 mD hfr hP hD hS (lv_sub hl [0, 1, 2, 3, 4, 5] rfl)
                    exact lp_75 (2 * N) 0 (by omega) _ _ _ _ m0 mD hfr hP hD hS (lv_sub hl [0, 1, 2, 3, 4] rfl)
              exact lp_67 (2 * N) 0 (by omega) _ _ _ _ m0 mD lt_0 hfr hP hD hS (lv_sub hl [0, 1, 2, 3] rfl)
        exact lp_59 q0 0 (by omega) _ _ _ _ (lm_c0 (2 * N) D0) (nI 1) m0 mD hq hfr hP hD hS (lv_sub hl [0, 1, 2] rfl)
      · have c1 : ¬ (2 * N ≤ (2 * N)) := fun z => c1 ((nI_leI (a := (2 * N)) (b := (2 * N)) (by omega) (by omega)).mpr z)
        exfalso; omega
    | succ dd ih_9 =>
      intro i e_i w H locs ls m0 mD hfr hP hD hS hl
      refine lv_iload_n hx hb d_M_close_9 rfl (lv_at hl 0 rfl) ?_
      refine lv_iload_n hx hb d_M_close_10 rfl (lv_at hl 1 rfl) ?_
      refine lv_icmp_ge (tgt := 57) hx hb d_M_close_11 (by decide) (fun c45 => ?_) (fun c45 => ?_)
      · have c45 := (nI_leI (a := (2 * N)) (b := i) (by omega) (by omega)).mp c45
        exfalso; omega
      · have c45 : ¬ (2 * N ≤ i) := fun z => c45 ((nI_leI (a := (2 * N)) (b := i) (by omega) (by omega)).mpr z)
        refine lv_bipush (v := nI 10) hx hb d_M_close_14 (by decide) ?_
        refine lv_iload_n hx hb d_M_close_16 rfl (lv_at hl 0 rfl) ?_
        refine lv_imul hx hb d_M_close_17 ?_
        refine gx_i (y := nI (10 * i)) (pk_mul _ _) ?_
        refine lv_iload_n hx hb d_M_close_18 rfl (lv_at hl 0 rfl) ?_
        refine gw_ci0 (gc_M_53 (As := [.int (nI i)]) (rest := [.int (nI (10 * i))]) hF hT (c_M_opposite (by omega)) ⟨(Nat.le_of_ble_eq_true rfl), (Nat.le_of_ble_eq_true rfl)⟩ rfl rfl hK hN hP hD rfl hl.1 rfl (Nat.le_of_ble_eq_true rfl) d_M_close_19 ⟨(Nat.le_of_ble_eq_true rfl), (Nat.le_of_ble_eq_true rfl)⟩) hD hS hA (fun r46 H locs e_r46 hP hD hS => ?_)
        subst e_r46
        have hop := lr_op_ev (x := 5) (i := i) (by omega)
        refine lv_iadd hx hb d_M_close_22 ?_
        refine gx_i (y := nI ((10 * i) + (lr_op i))) (nI_add _ _) ?_
        refine lv_istore_n (lv' := [(3, .int (nI ((10 * i) + (lr_op i)))), (2, .int (nI i)), (1, .int (nI (2 * N))), (0, .ref (A 0))]) hx hb d_M_close_23 rfl hl (by decide) rfl (fun ls hl => ?_)
        refine lv_aload_n hx hb d_M_close_24 rfl (lv_at hl 3 rfl) ?_
        refine gf_M_17 hF hT hK hP m0 rfl d_M_close_25 ?_
        refine lv_iload_n hx hb d_M_close_28 rfl (lv_at hl 0 rfl) ?_
        have mg_50 : ∀ (H : Heap) (locs : List Loc), va_P D classes w H → va_D (va_A ws sz) w → va_S (va_A ws sz) s.heap H locs → W p l e ({ frames := 2, cells := 0, slots := 0, locals := 23 } : Room) s m ([.ref (A 0)] : List Value).toArray below meth c H locs 0 0 (MQ below (va_Qi (fun r w => (∃ F, w[b + 3]? = some (A 3, .inl (cJ, 100, .inr (.inl F))) ∧ lm_res N o F r) ∧ gF (b + 3) (b + 4) ws w) (gw_B D classes (gT cJ cI cZ cS) ws sz) (va_A ws sz)) ([.ref (A 0)] : List Value).toArray s 0 0 (va_A ws sz)) (F0 m 50 ls [.long (lm_mn0 ((lm_c0 i D0) (10 * i + lr_op i))), .int (nI ((10 * i) + (lr_op i))), .ref (A 3)]) := by
          intro H locs hP hD hS
          refine g_last (t0 := 0) (k := (10 * i) + (lr_op i)) hx hb hK hP hD hS mD rfl (by omega) (by omega) d_M_close_50 (fun w H locs mD hf hP hD hS => ?_)
          have m0 := hf.at m0 (by omega)
          have hfr := hfr.in hf (by omega) (by omega)
          refine lv_iinc (v := nI (i + 1)) (lv' := [(2, .int (nI (i + 1))), (3, .int (nI ((10 * i) + (lr_op i)))), (1, .int (nI (2 * N))), (0, .ref (A 0))]) hx hb d_M_close_51 hl (k := 1) rfl (gx_inc _) (by decide) rfl (fun ls hl => ?_)
          refine lv_goto (tgt := 9) hx hb d_M_close_54 (by decide) ?_
          exact ih_9 (i + 1) (by omega) _ _ _ _ m0 mD hfr hP hD hS (lv_sub hl [0, 2, 3] rfl)
        refine lv_aload_n hx hb d_M_close_29 rfl (lv_at hl 3 rfl) ?_
        refine gf_M_17 hF hT hK hP m0 rfl d_M_close_30 ?_
        refine lv_iload_n hx hb d_M_close_33 rfl (lv_at hl 0 rfl) ?_
        refine g_lald (t0 := 0) (k := (10 * i) + (lr_op i)) hx hb hK hP mD rfl (by omega) (by omega) d_M_close_34 ?_
        refine lv_lconst (v := 0) hx hb d_M_close_35 rfl ?_
        refine gx_lge (tgt := 49) hx hb d_M_close_36 d_M_close_37 (by decide) (fun c47 => ?_) (fun c47 => ?_)
        · refine lv_lconst (v := 0) hx hb d_M_close_49 rfl ?_
          exact gx_l (y := lm_mn0 ((lm_c0 i D0) (10 * i + lr_op i))) (by unfold lm_mn0; simp [c47]) (mg_50 _ _ hP hD hS)
        · refine lv_aload_n hx hb d_M_close_40 rfl (lv_at hl 3 rfl) ?_
          refine gf_M_17 hF hT hK hP m0 rfl d_M_close_41 ?_
          refine lv_iload_n hx hb d_M_close_44 rfl (lv_at hl 0 rfl) ?_
          refine g_lald (t0 := 0) (k := (10 * i) + (lr_op i)) hx hb hK hP mD rfl (by omega) (by omega) d_M_close_45 ?_
          refine lv_goto (tgt := 50) hx hb d_M_close_46 (by decide) ?_
          exact gx_l (y := lm_mn0 ((lm_c0 i D0) (10 * i + lr_op i))) (by unfold lm_mn0; simp [c47]) (mg_50 _ _ hP hD hS)
  exact lp_9 (2 * N) 0 (by omega) _ _ _ _ m0 mD hfr hP hD hS (lv_sub hl [0, 1, 2] rfl)
