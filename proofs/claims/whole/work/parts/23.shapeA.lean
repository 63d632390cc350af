set_option maxHeartbeats 4000000 in
set_option maxRecDepth 100000 in
theorem c_T_isTooFar {l : Launch} {D : va_G} {cJ cI cZ cS : ClassId} {ws : va_W} {sz : Nat} {j h g n : Nat} {f : Nat → Int64} (ht : tbAt cJ ws j h g n f) (hn : n ≤ 10) : Met l y_T_isTooFar w_T_isTooFar ({ frames := 3, cells := 0, slots := 0, locals := 43 } : Room) (gw_Pc D classes (gT cJ cI cZ cS) [.ref h] ws sz) (va_Qi (fun r w => ((r = nI 1 ∧ lr_tooFar f n) ∨ (r = nI 0 ∧ ¬ lr_tooFar f n)) ∧ w = ws) (gw_B D classes (gT cJ cI cZ cS) ws sz) (va_A ws sz)) 0 0 (va_A ws sz) := by
  refine gw_head (by decide) (Nat.le_of_ble_eq_true rfl) (fun p e s m below meth c hsz hx hb hr hlocks hml hown hnm hts hK hN hP hD hS hA ls hl => ?_)
  have hown : s.vm.findClass R_T = some m.cls := hown
  have hT : ∀ w ∈ wG, w ∈ Cond.code y_T_isTooFar b_T_isTooFar 5 (some .boolean) :: wG := gd_t _
  have hF : CallFix p m c b_T_isTooFar 5 s ([.ref h] : List Value).toArray (Cond.code y_T_isTooFar b_T_isTooFar 5 (some .boolean) :: wG) R_T := ⟨hx, hb, hml, hown, hts⟩
  have hl : lv_has ls 5 [(0, .ref h)] := hl
  obtain ⟨hO, hC⟩ := ht
  refine lv_iconst (v := nI 0) hx hb d_T_isTooFar_0 (by decide) ?_
  refine lv_istore_n (lv' := [(1, .int (nI 0)), (0, .ref h)]) hx hb d_T_isTooFar_1 rfl hl (by decide) rfl (fun ls hl => ?_)
  have lp_2 : ∀ (dd i : Nat), i + dd = n → ∀ (H : Heap) (locs : List Loc) (ls : Array Slot), (∀ a, a < i → ∀ t, t < n - a → ¬ lr_far (lr_cell f n a (a + t))) → va_P D classes ws H → va_D (va_A ws sz) ws → va_S (va_A ws sz) s.heap H locs → lv_has ls 5 [(1, .int (nI i)), (0, .ref h)] → W p l e ({ frames := 3, cells := 0, slots := 0, locals := 43 } : Room) s m ([.ref h] : List Value).toArray below meth c H locs 0 0 (MQ below (va_Qi (fun r w => ((r = nI 1 ∧ lr_tooFar f n) ∨ (r = nI 0 ∧ ¬ lr_tooFar f n)) ∧ w = ws) (gw_B D classes (gT cJ cI cZ cS) ws sz) (va_A ws sz)) ([.ref h] : List Value).toArray s 0 0 (va_A ws sz)) (F0 m 2 ls []) := by
    intro dd
    induction dd with
    | zero =>
      intro i e_i H locs ls ha hP hD hS hl
      have e0_i : n = i := by omega
      subst e0_i
      refine lv_iload_n hx hb d_T_isTooFar_2 rfl (lv_at hl 0 rfl) ?_
      refine lv_aload_n hx hb d_T_isTooFar_3 rfl (lv_at hl 1 rfl) ?_
      refine gf_T_9 hF hT hK hP hO rfl d_T_isTooFar_4 ?_
      refine lv_icmp_ge (tgt := 78) hx hb d_T_isTooFar_7 (by decide) (fun c1 => ?_) (fun c1 => ?_)
      · have c1 := (nI_leI (a := n) (b := n) (by omega) (by omega)).mp c1
        refine lv_iconst (v := nI 0) hx hb d_T_isTooFar_78 (by decide) ?_
        exact gw_zret hx hb hr hlocks hK hP hD hS (Nat.le_of_ble_eq_true rfl) (Nat.le_of_ble_eq_true rfl) rfl d_T_isTooFar_79 ⟨Or.inr ⟨rfl, fun ⟨a, h1, b, h2, h3⟩ => ha a h1 b h2 h3⟩, rfl⟩
      · have c1 : ¬ (n ≤ n) := fun z => c1 ((nI_leI (a := n) (b := n) (by omega) (by omega)).mpr z)
        exfalso; omega
    | succ dd ih_2 =>
      intro i e_i H locs ls ha hP hD hS hl
      refine lv_iload_n hx hb d_T_isTooFar_2 rfl (lv_at hl 0 rfl) ?_
      refine lv_aload_n hx hb d_T_isTooFar_3 rfl (lv_at hl 1 rfl) ?_
      refine gf_T_9 hF hT hK hP hO rfl d_T_isTooFar_4 ?_
      refine lv_icmp_ge (tgt := 78) hx hb d_T_isTooFar_7 (by decide) (fun c2 => ?_) (fun c2 => ?_)
      · have c2 := (nI_leI (a := n) (b := i) (by omega) (by omega)).mp c2
        exfalso; omega
      · have c2 : ¬ (n ≤ i) := fun z => c2 ((nI_leI (a := n) (b := i) (by omega) (by omega)).mpr z)
        refine lv_iload_n hx hb d_T_isTooFar_10 rfl (lv_at hl 0 rfl) ?_
        refine lv_istore_n (lv' := [(2, .int (nI i)), (1, .int (nI i)), (0, .ref h)]) hx hb d_T_isTooFar_11 rfl hl (by decide) rfl (fun ls hl => ?_)
        have lp_12 : ∀ (dd t : Nat), t + dd = (n - i) → ∀ (H : Heap) (locs : List Loc) (ls : Array Slot), (∀ b, b < t → ¬ lr_far (lr_cell f n i (i + b))) → va_P D classes ws H → va_D (va_A ws sz) ws → va_S (va_A ws sz) s.heap H locs → lv_has ls 5 [(2, .int (nI (i + t))), (1, .int (nI i)), (0, .ref h)] → W p l e ({ frames := 3, cells := 0, slots := 0, locals := 43 } : Room) s m ([.ref h] : List Value).toArray below meth c H locs 0 0 (MQ below (va_Qi (fun r w => ((r = nI 1 ∧ lr_tooFar f n) ∨ (r = nI 0 ∧ ¬ lr_tooFar f n)) ∧ w = ws) (gw_B D classes (gT cJ cI cZ cS) ws sz) (va_A ws sz)) ([.ref h] : List Value).toArray s 0 0 (va_A ws sz)) (F0 m 12 ls []) := by
          intro dd
          induction dd with
          | zero =>
            intro t e_t H locs ls hq hP hD hS hl
            have e0_t : (n - i) = t := by omega
            subst e0_t
            refine lv_iload_n hx hb d_T_isTooFar_12 rfl (lv_at hl 0 rfl) ?_
            refine lv_aload_n hx hb d_T_isTooFar_13 rfl (lv_at hl 2 rfl) ?_
            refine gf_T_9 hF hT hK hP hO rfl d_T_isTooFar_14 ?_
            refine lv_icmp_ge (tgt := 72) hx hb d_T_isTooFar_17 (by decide) (fun c3 => ?_) (fun c3 => ?_)
            · have c3 := (nI_leI (a := n) (b := (i + (n - i))) (by omega) (by omega)).mp c3
              refine lv_iinc (v := nI (i + 1)) (lv' := [(1, .int (nI (i + 1))), (2, .int (nI (i + (n - i)))), (0, .ref h)]) hx hb d_T_isTooFar_72 hl (k := 1) rfl (gx_inc _) (by decide) rfl (fun ls hl => ?_)
              refine lv_goto (tgt := 2) hx hb d_T_isTooFar_75 (by decide) ?_
              exact ih_2 (i + 1) (by omega) _ _ _  (lt_s ha (fun t ht => hq t (by omega))) hP hD hS (lv_sub hl [0, 2] rfl)
            · have c3 : ¬ (n ≤ i + (n - i)) := fun z => c3 ((nI_leI (a := n) (b := (i + (n - i))) (by omega) (by omega)).mpr z)
              exfalso; omega
          | succ dd ih_12 =>
            intro t e_t H locs ls hq hP hD hS hl
            refine lv_iload_n hx hb d_T_isTooFar_12 rfl (lv_at hl 0 rfl) ?_
            refine lv_aload_n hx hb d_T_isTooFar_13 rfl (lv_at hl 2 rfl) ?_
            refine gf_T_9 hF hT hK hP hO rfl d_T_isTooFar_14 ?_
            refine lv_icmp_ge (tgt := 72) hx hb d_T_isTooFar_17 (by decide) (fun c4 => ?_) (fun c4 => ?_)
            · have c4 := (nI_leI (a := n) (b := (i + t)) (by omega) (by omega)).mp c4
              exfalso; omega
            · have c4 : ¬ (n ≤ i + t) := fun z => c4 ((nI_leI (a := n) (b := (i + t)) (by omega) (by omega)).mpr z)
              refine lv_iload_n hx hb d_T_isTooFar_20 rfl (lv_at hl 1 rfl) ?_
              refine lv_iload_n hx hb d_T_isTooFar_21 rfl (lv_at hl 0 rfl) ?_
              refine lv_icmp_ne (tgt := 33) hx hb d_T_isTooFar_22 (by decide) (fun c5 => ?_) (fun c5 => ?_)
              · have c5 : ¬ (i = i + t) := fun z => c5 ((nI_eq (a := i) (b := (i + t)) (by omega) (by omega)).mpr z)
                refine lv_aload_n hx hb d_T_isTooFar_33 rfl (lv_at hl 2 rfl) ?_
                refine lv_iload_n hx hb d_T_isTooFar_34 rfl (lv_at hl 1 rfl) ?_
                refine lv_iload_n hx hb d_T_isTooFar_35 rfl (lv_at hl 0 rfl) ?_
                refine gw_cl0 (gc_T_27 (As := [.int (nI i), .int (nI (i + t))]) (rest := []) hF hT (c_T_at ⟨hO, hC⟩ hn (by omega) (by omega)) ⟨(Nat.le_of_ble_eq_true rfl), (Nat.le_of_ble_eq_true rfl)⟩ rfl rfl hK hN hP hD hO rfl hl.1 rfl (Nat.le_of_ble_eq_true rfl) d_T_isTooFar_36 ⟨(Nat.le_of_ble_eq_true rfl), (Nat.le_of_ble_eq_true rfl)⟩) hD hS hA (fun r6 H locs e_r6 hP hD hS => ?_)
                subst e_r6
                refine lv_lstore_n (lv' := [(3, .long (f (i * n + (i + t)))), (2, .int (nI (i + t))), (1, .int (nI i)), (0, .ref h)]) hx hb d_T_isTooFar_39 rfl hl (by decide) rfl (fun ls hl => ?_)
                refine lv_lload_n hx hb d_T_isTooFar_40 rfl (lv_at hl 0 rfl) ?_
                refine lv_ldc2 (v := lr_E) hx hb hown (hts _ (hT _ wm_1_41)) d_T_isTooFar_41 ?_
                refine gx_leq (tgt := 66) hx hb d_T_isTooFar_44 d_T_isTooFar_45 (by decide) (fun c7 => ?_) (fun c7 => ?_)
                · refine lv_iinc (v := nI (i + t + 1)) (lv' := [(2, .int (nI (i + t + 1))), (3, .long (f (i * n + (i + t)))), (1, .int (nI i)), (0, .ref h)]) hx hb d_T_isTooFar_66 hl (k := 1) rfl (gx_inc _) (by decide) rfl (fun ls hl => ?_)
                  refine lv_goto (tgt := 12) hx hb d_T_isTooFar_69 (by decide) ?_
                  exact ih_12 (t + 1) (by omega) _ _ _  (lt_s hq (by rw [show lr_cell f n i (i + t) = _ from if_neg c5]; exact fun q => q.1 c7)) hP hD hS (lv_sub hl [0, 2, 3] rfl)
                · refine lv_lload_n hx hb d_T_isTooFar_48 rfl (lv_at hl 0 rfl) ?_
                  refine lv_ldc2 (v := (1000000000000000 : Int64)) hx hb hown (hts _ (hT _ wm_2_79)) d_T_isTooFar_49 ?_
                  refine gx_lgt (tgt := 64) hx hb d_T_isTooFar_52 d_T_isTooFar_53 (by decide) (fun c8 => ?_) (fun c8 => ?_)
                  · refine lv_iconst (v := nI 1) hx hb d_T_isTooFar_64 (by decide) ?_
                    exact gw_zret hx hb hr hlocks hK hP hD hS (Nat.le_of_ble_eq_true rfl) (Nat.le_of_ble_eq_true rfl) rfl d_T_isTooFar_65 ⟨Or.inl ⟨rfl, i, by omega, t, by omega, by rw [show lr_cell f n i (i + t) = _ from if_neg c5]; exact ⟨c7, Or.inl c8⟩⟩, rfl⟩
                  · refine lv_lload_n hx hb d_T_isTooFar_56 rfl (lv_at hl 0 rfl) ?_
                    refine lv_ldc2 (v := (-1000000000000000 : Int64)) hx hb hown (hts _ (hT _ wm_2_80)) d_T_isTooFar_57 ?_
                    refine gx_lge (tgt := 66) hx hb d_T_isTooFar_60 d_T_isTooFar_61 (by decide) (fun c9 => ?_) (fun c9 => ?_)
                    · refine lv_iinc (v := nI (i + t + 1)) (lv' := [(2, .int (nI (i + t + 1))), (3, .long (f (i * n + (i + t)))), (1, .int (nI i)), (0, .ref h)]) hx hb d_T_isTooFar_66 hl (k := 1) rfl (gx_inc _) (by decide) rfl (fun ls hl => ?_)
                      refine lv_goto (tgt := 12) hx hb d_T_isTooFar_69 (by decide) ?_
                      exact ih_12 (t + 1) (by omega) _ _ _  (lt_s hq (by rw [show lr_cell f n i (i + t) = _ from if_neg c5]; exact fun q => q.2.elim c8 (Int64.not_lt.mpr c9))) hP hD hS (lv_sub hl [0, 2, 3] rfl)
                    · refine lv_iconst (v := nI 1) hx hb d_T_isTooFar_64 (by decide) ?_
                      exact gw_zret hx hb hr hlocks hK hP hD hS (Nat.le_of_ble_eq_true rfl) (Nat.le_of_ble_eq_true rfl) rfl d_T_isTooFar_65 ⟨Or.inl ⟨rfl, i, by omega, t, by omega, by rw [show lr_cell f n i (i + t) = _ from if_neg c5]; exact ⟨c7, Or.inr (Int64.not_le.mp c9)⟩⟩, rfl⟩
              · have c5 := (nI_eq (a := i) (b := (i + t)) (by omega) (by omega)).mp c5
                refine lv_aload_n hx hb d_T_isTooFar_25 rfl (lv_at hl 2 rfl) ?_
                refine lv_iload_n hx hb d_T_isTooFar_26 rfl (lv_at hl 1 rfl) ?_
                refine gw_cl0 (gc_T_37 (As := [.int (nI i)]) (rest := []) hF hT (c_T_half ⟨hO, hC⟩ hn (by omega)) ⟨(Nat.le_of_ble_eq_true rfl), (Nat.le_of_ble_eq_true rfl)⟩ rfl rfl hK hN hP hD hO rfl hl.1 rfl (Nat.le_of_ble_eq_true rfl) d_T_isTooFar_27 ⟨(Nat.le_of_ble_eq_true rfl), (Nat.le_of_ble_eq_true rfl)⟩) hD hS hA (fun r10 H locs e_r10 hP hD hS => ?_)
                subst e_r10
                refine lv_goto (tgt := 39) hx hb d_T_isTooFar_30 (by decide) ?_
                refine lv_lstore_n (lv' := [(3, .long (lr_half f n i)), (2, .int (nI (i + t))), (1, .int (nI i)), (0, .ref h)]) hx hb d_T_isTooFar_39 rfl hl (by decide) rfl (fun ls hl => ?_)
                refine lv_lload_n hx hb d_T_isTooFar_40 rfl (lv_at hl 0 rfl) ?_
                refine lv_ldc2 (v := lr_E) hx hb hown (hts _ (hT _ wm_1_41)) d_T_isTooFar_41 ?_
                refine gx_leq (tgt := 66) hx hb d_T_isTooFar_44 d_T_isTooFar_45 (by decide) (fun c11 => ?_) (fun c11 => ?_)
                · refine lv_iinc (v := nI (i + t + 1)) (lv' := [(2, .int (nI (i + t + 1))), (3, .long (lr_half f n i)), (1, .int (nI i)), (0, .ref h)]) hx hb d_T_isTooFar_66 hl (k := 1) rfl (gx_inc _) (by decide) rfl (fun ls hl => ?_)
                  refine lv_goto (tgt := 12) hx hb d_T_isTooFar_69 (by decide) ?_
                  exact ih_12 (t + 1) (by omega) _ _ _  (lt_s hq (by rw [show lr_cell f n i (i + t) = _ from if_pos c5]; exact fun q => q.1 c11)) hP hD hS (lv_sub hl [0, 2, 3] rfl)
                · refine lv_lload_n hx hb d_T_isTooFar_48 rfl (lv_at hl 0 rfl) ?_
                  refine lv_ldc2 (v := (1000000000000000 : Int64)) hx hb hown (hts _ (hT _ wm_2_79)) d_T_isTooFar_49 ?_
                  refine gx_lgt (tgt := 64) hx hb d_T_isTooFar_52 d_T_isTooFar_53 (by decide) (fun c12 => ?_) (fun c12 => ?_)
                  · refine lv_iconst (v := nI 1) hx hb d_T_isTooFar_64 (by decide) ?_
                    exact gw_zret hx hb hr hlocks hK hP hD hS (Nat.le_of_ble_eq_true rfl) (Nat.le_of_ble_eq_true rfl) rfl d_T_isTooFar_65 ⟨Or.inl ⟨rfl, i, by omega, t, by omega, by rw [show lr_cell f n i (i + t) = _ from if_pos c5]; exact ⟨c11, Or.inl c12⟩⟩, rfl⟩
                  · refine lv_lload_n hx hb d_T_isTooFar_56 rfl (lv_at hl 0 rfl) ?_
                    refine lv_ldc2 (v := (-1000000000000000 : Int64)) hx hb hown (hts _ (hT _ wm_2_80)) d_T_isTooFar_57 ?_
                    refine gx_lge (tgt := 66) hx hb d_T_isTooFar_60 d_T_isTooFar_61 (by decide) (fun c13 => ?_) (fun c13 => ?_)
                    · refine lv_iinc (v := nI (i + t + 1)) (lv' := [(2, .int (nI (i + t + 1))), (3, .long (lr_half f n i)), (1, .int (nI i)), (0, .ref h)]) hx hb d_T_isTooFar_66 hl (k := 1) rfl (gx_inc _) (by decide) rfl (fun ls hl => ?_)
                      refine lv_goto (tgt := 12) hx hb d_T_isTooFar_69 (by decide) ?_
                      exact ih_12 (t + 1) (by omega) _ _ _  (lt_s hq (by rw [show lr_cell f n i (i + t) = _ from if_pos c5]; exact fun q => q.2.elim c12 (Int64.not_lt.mpr c13))) hP hD hS (lv_sub hl [0, 2, 3] rfl)
                    · refine lv_iconst (v := nI 1) hx hb d_T_isTooFar_64 (by decide) ?_
                      exact gw_zret hx hb hr hlocks hK hP hD hS (Nat.le_of_ble_eq_true rfl) (Nat.le_of_ble_eq_true rfl) rfl d_T_isTooFar_65 ⟨Or.inl ⟨rfl, i, by omega, t, by omega, by rw [show lr_cell f n i (i + t) = _ from if_pos c5]; exact ⟨c11, Or.inr (Int64.not_le.mp c13)⟩⟩, rfl⟩
        exact lp_12 (n - i) 0 (by omega) _ _ _  lt_0 hP hD hS (lv_sub hl [0, 1, 2] rfl)
  exact lp_2 n 0 (by omega) _ _ _  lt_0 hP hD hS (lv_sub hl [0, 1] rfl)

set_option maxHeartbeats 4000000 in
set_option maxRecDepth 100000 in
theorem c_T_close {l : Launch} {D : va_G} {cJ cI cZ cS : ClassId} {ws : va_W} {sz : Nat} {j h g n : Nat} {f : Nat → Int64} (ht : tbAt cJ ws j h g n f) (hn : n ≤ 10) (he : n % 2 = 0) : Met l y_T_close w_T_close ({ frames := 4, cells := 0, slots := 0, locals := 70 } : Room) (gw_Pc D classes (gT cJ cI cZ cS) [.ref h] ws sz) (va_Qi (fun r w => ((r = nI 1 ∧ lr_okA f n ∧ tbAt cJ w j h g n (lr_clR f n)) ∨ (r = nI 0 ∧ ¬ lr_okA f n ∧ ∃ f1, tbAt cJ w j h g n f1)) ∧ gF (j + 1) (j + 2) ws w) (gw_B D classes (gT cJ cI cZ cS) ws sz) (va_A ws sz)) 0 0 (va_A ws sz) := by
  refine gw_head (by decide) (Nat.le_of_ble_eq_true rfl) (fun p e s m below meth c hsz hx hb hr hlocks hml hown hnm hts hK hN hP hD hS hA ls hl => ?_)
  have hown : s.vm.findClass R_T = some m.cls := hown
  have hT : ∀ w ∈ wG, w ∈ Cond.code y_T_close b_T_close 2 (some .boolean) :: wG := gd_t _
  have hF : CallFix p m c b_T_close 2 s ([.ref h] : List Value).toArray (Cond.code y_T_close b_T_close 2 (some .boolean) :: wG) R_T := ⟨hx, hb, hml, hown, hts⟩
  have hl : lv_has ls 2 [(0, .ref h)] := hl
  obtain ⟨hO, hC⟩ := ht
  have hfr : gF (j + 1) (j + 2) ws ws := gF.rf
  refine lv_aload_n hx hb d_T_close_0 rfl (lv_at hl 0 rfl) ?_
  refine lv_lconst (v := 0) hx hb d_T_close_1 rfl ?_
  refine gw_cv (gc_T_64 (As := [.long (0 : Int64)]) (rest := []) hF hT (c_T_storeOpposites ⟨hO, hC⟩ hn he) ⟨(Nat.le_of_ble_eq_true rfl), (Nat.le_of_ble_eq_true rfl)⟩ rfl rfl hK hN hP hD hO rfl hl.1 rfl (Nat.le_of_ble_eq_true rfl) d_T_close_2 ⟨(Nat.le_of_ble_eq_true rfl), (Nat.le_of_ble_eq_true rfl)⟩) hD hS hA (fun w H locs hw hP hD hS => ?_)
  obtain ⟨⟨hO, hC⟩, hf⟩ := hw
  have hfr := hfr.in hf (by omega) (by omega)
  refine lv_iconst (v := nI 0) hx hb d_T_close_5 (by decide) ?_
  refine lv_istore_n (lv' := [(1, .int (nI 0)), (0, .ref h)]) hx hb d_T_close_6 rfl hl (by decide) rfl (fun ls hl => ?_)
  have lp_7 : ∀ (dd i : Nat), i + dd = n → ∀ (w : va_W) (H : Heap) (locs : List Loc) (ls : Array Slot), w[j]? = some (h, .inr (0, [.int (nI n), .ref g])) → w[j + 1]? = some (g, .inl (cJ, n * n, .inr (.inl (lr_cl1 f n i)))) → (∀ a, a < i → ¬ lr_oppNeg (lr_cl1 f n (a + 1)) n) → gF (j + 1) (j + 2) ws w → va_P D classes w H → va_D (va_A ws sz) w → va_S (va_A ws sz) s.heap H locs → lv_has ls 2 [(1, .int (nI i)), (0, .ref h)] → W p l e ({ frames := 4, cells := 0, slots := 0, locals := 70 } : Room) s m ([.ref h] : List Value).toArray below meth c H locs 0 0 (MQ below (va_Qi (fun r w => ((r = nI 1 ∧ lr_okA f n ∧ tbAt cJ w j h g n (lr_clR f n)) ∨ (r = nI 0 ∧ ¬ lr_okA f n ∧ ∃ f1, tbAt cJ w j h g n f1)) ∧ gF (j + 1) (j + 2) ws w) (gw_B D classes (gT cJ cI cZ cS) ws sz) (va_A ws sz)) ([.ref h] : List Value).toArray s 0 0 (va_A ws sz)) (F0 m 7 ls []) := by
    intro dd
    induction dd with
    | zero =>
      intro i e_i w H locs ls hO hC ha hfr hP hD hS hl
      have e0_i : n = i := by omega
      subst e0_i
      refine lv_iload_n hx hb d_T_close_7 rfl (lv_at hl 0 rfl) ?_
      refine lv_aload_n hx hb d_T_close_8 rfl (lv_at hl 1 rfl) ?_
      refine gf_T_9 hF hT hK hP hO rfl d_T_close_9 ?_
      refine lv_icmp_ge (tgt := 35) hx hb d_T_close_12 (by decide) (fun c1 => ?_) (fun c1 => ?_)
      · have c1 := (nI_leI (a := n) (b := n) (by omega) (by omega)).mp c1
        refine lv_aload_n hx hb d_T_close_35 rfl (lv_at hl 1 rfl) ?_
        refine gw_cv (gc_T_76 (As := []) (rest := []) hF hT (c_T_cutToEven ⟨hO, hC⟩ hn) ⟨(Nat.le_of_ble_eq_true rfl), (Nat.le_of_ble_eq_true rfl)⟩ rfl rfl hK hN hP hD hO rfl hl.1 rfl (Nat.le_of_ble_eq_true rfl) d_T_close_36 ⟨(Nat.le_of_ble_eq_true rfl), (Nat.le_of_ble_eq_true rfl)⟩) hD hS hA (fun w H locs hw hP hD hS => ?_)
        obtain ⟨⟨hO, hC⟩, hf⟩ := hw
        have hfr := hfr.in hf (by omega) (by omega)
        refine lv_aload_n hx hb d_T_close_39 rfl (lv_at hl 1 rfl) ?_
        refine gw_ci0 (gc_T_79 (As := []) (rest := []) hF hT (c_T_hasTwicesThatContradict ⟨hO, hC⟩ hn he) ⟨(Nat.le_of_ble_eq_true rfl), (Nat.le_of_ble_eq_true rfl)⟩ rfl rfl hK hN hP hD hO rfl hl.1 rfl (Nat.le_of_ble_eq_true rfl) d_T_close_40 ⟨(Nat.le_of_ble_eq_true rfl), (Nat.le_of_ble_eq_true rfl)⟩) hD hS hA (fun r2 H locs h_r2 hP hD hS => ?_)
        refine lv_if_eq (tgt := 48) hx hb d_T_close_43 (by decide) (fun c3 => ?_) (fun c3 => ?_)
        · have hop := gb_t h_r2 c3
          refine lv_aload_n hx hb d_T_close_48 rfl (lv_at hl 1 rfl) ?_
          refine gw_cv (gc_T_82 (As := []) (rest := []) hF hT (c_T_addHalves ⟨hO, hC⟩ hn) ⟨(Nat.le_of_ble_eq_true rfl), (Nat.le_of_ble_eq_true rfl)⟩ rfl rfl hK hN hP hD hO rfl hl.1 rfl (Nat.le_of_ble_eq_true rfl) d_T_close_49 ⟨(Nat.le_of_ble_eq_true rfl), (Nat.le_of_ble_eq_true rfl)⟩) hD hS hA (fun w H locs hw hP hD hS => ?_)
          obtain ⟨⟨hO, hC⟩, hf⟩ := hw
          have hfr := hfr.in hf (by omega) (by omega)
          refine lv_iconst (v := nI 1) hx hb d_T_close_52 (by decide) ?_
          exact gw_zret hx hb hr hlocks hK hP hD hS (Nat.le_of_ble_eq_true rfl) (Nat.le_of_ble_eq_true rfl) rfl d_T_close_53 ⟨Or.inl ⟨rfl, ⟨ha, hop⟩, hO, hC⟩, hfr⟩
        · have hop := gb_f h_r2 c3
          refine lv_iconst (v := nI 0) hx hb d_T_close_46 (by decide) ?_
          exact gw_zret hx hb hr hlocks hK hP hD hS (Nat.le_of_ble_eq_true rfl) (Nat.le_of_ble_eq_true rfl) rfl d_T_close_47 ⟨Or.inr ⟨rfl, fun q => q.2 hop, _, hO, hC⟩, hfr⟩
      · have c1 : ¬ (n ≤ n) := fun z => c1 ((nI_leI (a := n) (b := n) (by omega) (by omega)).mpr z)
        exfalso; omega
    | succ dd ih_7 =>
      intro i e_i w H locs ls hO hC ha hfr hP hD hS hl
      refine lv_iload_n hx hb d_T_close_7 rfl (lv_at hl 0 rfl) ?_
      refine lv_aload_n hx hb d_T_close_8 rfl (lv_at hl 1 rfl) ?_
      refine gf_T_9 hF hT hK hP hO rfl d_T_close_9 ?_
      refine lv_icmp_ge (tgt := 35) hx hb d_T_close_12 (by decide) (fun c4 => ?_) (fun c4 => ?_)
      · have c4 := (nI_leI (a := n) (b := i) (by omega) (by omega)).mp c4
        exfalso; omega
      · have c4 : ¬ (n ≤ i) := fun z => c4 ((nI_leI (a := n) (b := i) (by omega) (by omega)).mpr z)
        refine lv_aload_n hx hb d_T_close_15 rfl (lv_at hl 1 rfl) ?_
        refine lv_iload_n hx hb d_T_close_16 rfl (lv_at hl 0 rfl) ?_
        refine gw_cv (gc_T_68 (As := [.int (nI i)]) (rest := []) hF hT (c_T_chainThrough ⟨hO, hC⟩ hn (by omega) he) ⟨(Nat.le_of_ble_eq_true rfl), (Nat.le_of_ble_eq_true rfl)⟩ rfl rfl hK hN hP hD hO rfl hl.1 rfl (Nat.le_of_ble_eq_true rfl) d_T_close_17 ⟨(Nat.le_of_ble_eq_true rfl), (Nat.le_of_ble_eq_true rfl)⟩) hD hS hA (fun w H locs hw hP hD hS => ?_)
        obtain ⟨⟨hO, hC⟩, hf⟩ := hw
        have hfr := hfr.in hf (by omega) (by omega)
        refine lv_aload_n hx hb d_T_close_20 rfl (lv_at hl 1 rfl) ?_
        refine gw_ci0 (gc_T_72 (As := []) (rest := []) hF hT (c_T_hasOppositesBelowZero ⟨hO, hC⟩ hn he) ⟨(Nat.le_of_ble_eq_true rfl), (Nat.le_of_ble_eq_true rfl)⟩ rfl rfl hK hN hP hD hO rfl hl.1 rfl (Nat.le_of_ble_eq_true rfl) d_T_close_21 ⟨(Nat.le_of_ble_eq_true rfl), (Nat.le_of_ble_eq_true rfl)⟩) hD hS hA (fun r5 H locs h_r5 hP hD hS => ?_)
        refine lv_if_eq (tgt := 29) hx hb d_T_close_24 (by decide) (fun c6 => ?_) (fun c6 => ?_)
        · have hop := gb_t h_r5 c6
          refine lv_iinc (v := nI (i + 1)) (lv' := [(1, .int (nI (i + 1))), (0, .ref h)]) hx hb d_T_close_29 hl (k := 0) rfl (gx_inc _) (by decide) rfl (fun ls hl => ?_)
          refine lv_goto (tgt := 7) hx hb d_T_close_32 (by decide) ?_
          exact ih_7 (i + 1) (by omega) _ _ _ _ hO hC (lt_s ha hop) hfr hP hD hS (lv_sub hl [0, 1] rfl)
        · have hop := gb_f h_r5 c6
          refine lv_iconst (v := nI 0) hx hb d_T_close_27 (by decide) ?_
          exact gw_zret hx hb hr hlocks hK hP hD hS (Nat.le_of_ble_eq_true rfl) (Nat.le_of_ble_eq_true rfl) rfl d_T_close_28 ⟨Or.inr ⟨rfl, fun q => q.1 i (by omega) hop, _, hO, hC⟩, hfr⟩
  exact lp_7 n 0 (by omega) _ _ _ _ hO hC lt_0 hfr hP hD hS (lv_sub hl [0, 1] rfl)

set_option maxHeartbeats 4000000 in
set_option maxRecDepth 100000 in
theorem c_S_becomeAll {l : Launch} {D : va_G} {cJ cI cZ cS : ClassId} {ws : va_W} {sz : Nat} {j n : Nat} {a : Nat → Nat} {K B : Nat → Int64} {E : Int32} (hs : shAt cJ ws j a n K B E) (hn : n ≤ 10) (he : n % 2 = 0) : Met l y_S_becomeAll w_S_becomeAll ({ frames := 3, cells := 0, slots := 0, locals := 44 } : Room) (gw_Pc D classes (gT cJ cI cZ cS) [.ref (a 0)] ws sz) (va_Qv (fun w => shAt cJ w j a n (lr_all K n) (lr_allB B n) (nI 0) ∧ gF j (j + 5) ws w) (gw_B D classes (gT cJ cI cZ cS) ws sz) (va_A ws sz)) 0 0 (va_A ws sz) := by
  refine gw_head (by decide) (Nat.le_of_ble_eq_true rfl) (fun p e s m below meth c hsz hx hb hr hlocks hml hown hnm hts hK hN hP hD hS hA ls hl => ?_)
  have hown : s.vm.findClass R_S = some m.cls := hown
  have hT : ∀ w ∈ wG, w ∈ Cond.code y_S_becomeAll b_S_becomeAll 1 none :: wG := gd_t _
  have hF : CallFix p m c b_S_becomeAll 1 s ([.ref (a 0)] : List Value).toArray (Cond.code y_S_becomeAll b_S_becomeAll 1 none :: wG) R_S := ⟨hx, hb, hml, hown, hts⟩
  have hl : lv_has ls 1 [(0, .ref (a 0))] := hl
  obtain ⟨s0, ⟨sko, skc⟩, ⟨sbo, sbc⟩⟩ := hs
  have hfr : gF j (j + 5) ws ws := gF.rf
  refine lv_aload_n hx hb d_S_becomeAll_0 rfl (lv_at hl 0 rfl) ?_
  refine lv_iconst (v := nI 0) hx hb d_S_becomeAll_1 (by decide) ?_
  refine gp_S_31 hF hT hK hP hD hS (fs1 := [.int (nI n), .ref (a 1), .ref (a 3), .int (nI 0)]) s0 rfl rfl (Nat.le_of_ble_eq_true rfl) rfl d_S_becomeAll_2 (fun w H locs s0 hf hP hD hS => ?_)
  have sko := hf.at sko (by omega)
  have skc := hf.at skc (by omega)
  have sbo := hf.at sbo (by omega)
  have sbc := hf.at sbc (by omega)
  have hfr := hfr.in hf (by omega) (by omega)
  refine lv_aload_n hx hb d_S_becomeAll_5 rfl (lv_at hl 0 rfl) ?_
  refine gf_S_20 hF hT hK hP s0 rfl d_S_becomeAll_6 ?_
  refine gw_cv (gc_S_35 (As := []) (rest := []) hF hT (c_T_dropRows ⟨sko, skc⟩ hn) ⟨(Nat.le_of_ble_eq_true rfl), (Nat.le_of_ble_eq_true rfl)⟩ rfl rfl hK hN hP hD sko rfl hl.1 rfl (Nat.le_of_ble_eq_true rfl) d_S_becomeAll_9 ⟨(Nat.le_of_ble_eq_true rfl), (Nat.le_of_ble_eq_true rfl)⟩) hD hS hA (fun w H locs hw hP hD hS => ?_)
  obtain ⟨⟨sko, skc⟩, hf⟩ := hw
  have s0 := hf.at s0 (by omega)
  have sbo := hf.at sbo (by omega)
  have sbc := hf.at sbc (by omega)
  have hfr := hfr.in hf (by omega) (by omega)
  refine lv_aload_n hx hb d_S_becomeAll_12 rfl (lv_at hl 0 rfl) ?_
  refine gf_S_24 hF hT hK hP s0 rfl d_S_becomeAll_13 ?_
  refine gw_cv (gc_S_35 (As := []) (rest := []) hF hT (c_T_dropRows ⟨sbo, sbc⟩ hn) ⟨(Nat.le_of_ble_eq_true rfl), (Nat.le_of_ble_eq_true rfl)⟩ rfl rfl hK hN hP hD sbo rfl hl.1 rfl (Nat.le_of_ble_eq_true rfl) d_S_becomeAll_16 ⟨(Nat.le_of_ble_eq_true rfl), (Nat.le_of_ble_eq_true rfl)⟩) hD hS hA (fun w H locs hw hP hD hS => ?_)
  obtain ⟨⟨sbo, sbc⟩, hf⟩ := hw
  have s0 := hf.at s0 (by omega)
  have sko := hf.at sko (by omega)
  have skc := hf.at skc (by omega)
  have hfr := hfr.in hf (by omega) (by omega)
  refine lv_aload_n hx hb d_S_becomeAll_19 rfl (lv_at hl 0 rfl) ?_
  refine gf_S_24 hF hT hK hP s0 rfl d_S_becomeAll_20 ?_
  refine lv_lconst (v := 0) hx hb d_S_becomeAll_23 rfl ?_
  refine gw_cv (gc_S_27 (As := [.long (0 : Int64)]) (rest := []) hF hT (c_T_storeOpposites ⟨sbo, sbc⟩ hn he) ⟨(Nat.le_of_ble_eq_true rfl), (Nat.le_of_ble_eq_true rfl)⟩ rfl rfl hK hN hP hD sbo rfl hl.1 rfl (Nat.le_of_ble_eq_true rfl) d_S_becomeAll_24 ⟨(Nat.le_of_ble_eq_true rfl), (Nat.le_of_ble_eq_true rfl)⟩) hD hS hA (fun w H locs hw hP hD hS => ?_)
  obtain ⟨⟨sbo, sbc⟩, hf⟩ := hw
  have s0 := hf.at s0 (by omega)
  have sko := hf.at sko (by omega)
  have skc := hf.at skc (by omega)
  have hfr := hfr.in hf (by omega) (by omega)
  exact gw_vret hx hb hr hlocks hK hP hD hS (Nat.le_of_ble_eq_true rfl) (Nat.le_of_ble_eq_true rfl) d_S_becomeAll_27 ⟨⟨s0, ⟨sko, skc⟩, ⟨sbo, sbc⟩⟩, hfr⟩

set_option maxHeartbeats 4000000 in
set_option maxRecDepth 100000 in
theorem c_S_becomeEmpty {l : Launch} {D : va_G} {cJ cI cZ cS : ClassId} {ws : va_W} {sz : Nat} {j n : Nat} {a : Nat → Nat} {K B : Nat → Int64} {E : Int32} (hs : shAt cJ ws j a n K B E) (hn : n ≤ 10) (he : n % 2 = 0) : Met l y_S_becomeEmpty w_S_becomeEmpty ({ frames := 4, cells := 0, slots := 0, locals := 64 } : Room) (gw_Pc D classes (gT cJ cI cZ cS) [.ref (a 0)] ws sz) (va_Qv (fun w => shAt cJ w j a n (lr_all K n) (lr_allB B n) (nI 1) ∧ gF j (j + 5) ws w) (gw_B D classes (gT cJ cI cZ cS) ws sz) (va_A ws sz)) 0 0 (va_A ws sz) := by
  refine gw_head (by decide) (Nat.le_of_ble_eq_true rfl) (fun p e s m below meth c hsz hx hb hr hlocks hml hown hnm hts hK hN hP hD hS hA ls hl => ?_)
  have hown : s.vm.findClass R_S = some m.cls := hown
  have hT : ∀ w ∈ wG, w ∈ Cond.code y_S_becomeEmpty b_S_becomeEmpty 1 none :: wG := gd_t _
  have hF : CallFix p m c b_S_becomeEmpty 1 s ([.ref (a 0)] : List Value).toArray (Cond.code y_S_becomeEmpty b_S_becomeEmpty 1 none :: wG) R_S := ⟨hx, hb, hml, hown, hts⟩
  have hl : lv_has ls 1 [(0, .ref (a 0))] := hl
  obtain ⟨s0, ⟨sko, skc⟩, ⟨sbo, sbc⟩⟩ := hs
  have hfr : gF j (j + 5) ws ws := gF.rf
  refine lv_aload_n hx hb d_S_becomeEmpty_0 rfl (lv_at hl 0 rfl) ?_
  refine gw_cv (gc_S_38 (As := []) (rest := []) hF hT (c_S_becomeAll ⟨s0, ⟨sko, skc⟩, ⟨sbo, sbc⟩⟩ hn he) ⟨(Nat.le_of_ble_eq_true rfl), (Nat.le_of_ble_eq_true rfl)⟩ rfl rfl hK hN hP hD s0 rfl hl.1 rfl (Nat.le_of_ble_eq_true rfl) d_S_becomeEmpty_1 ⟨(Nat.le_of_ble_eq_true rfl), (Nat.le_of_ble_eq_true rfl)⟩) hD hS hA (fun w H locs hw hP hD hS => ?_)
  obtain ⟨⟨s0, ⟨sko, skc⟩, ⟨sbo, sbc⟩⟩, hf⟩ := hw
  have hfr := hfr.in hf (by omega) (by omega)
  refine lv_aload_n hx hb d_S_becomeEmpty_4 rfl (lv_at hl 0 rfl) ?_
  refine lv_iconst (v := nI 1) hx hb d_S_becomeEmpty_5 (by decide) ?_
  refine gp_S_31 hF hT hK hP hD hS (fs1 := [.int (nI n), .ref (a 1), .ref (a 3), .int (nI 1)]) s0 rfl rfl (Nat.le_of_ble_eq_true rfl) rfl d_S_becomeEmpty_6 (fun w H locs s0 hf hP hD hS => ?_)
  have sko := hf.at sko (by omega)
  have skc := hf.at skc (by omega)
  have sbo := hf.at sbo (by omega)
  have sbc := hf.at sbc (by omega)
  have hfr := hfr.in hf (by omega) (by omega)
  exact gw_vret hx hb hr hlocks hK hP hD hS (Nat.le_of_ble_eq_true rfl) (Nat.le_of_ble_eq_true rfl) d_S_becomeEmpty_9 ⟨⟨s0, ⟨sko, skc⟩, ⟨sbo, sbc⟩⟩, hfr⟩

set_option maxHeartbeats 4000000 in
set_option maxRecDepth 100000 in
theorem c_S_becomeLike {l : Launch} {D : va_G} {cJ cI cZ cS : ClassId} {ws : va_W} {sz : Nat} {j n : Nat} {a : Nat → Nat} {K B : Nat → Int64} {E : Int32} (hs : shAt cJ ws j a n K B E) (hn : n ≤ 10) (he : n % 2 = 0) {j2 : Nat} {b : Nat → Nat} {K2 B2 : Nat → Int64} {E2 : Int32} (hs2 : shAt cJ ws j2 b n K2 B2 E2) (hE2 : E2 = 0 ∨ E2 = 1) (hj : j2 + 5 ≤ j ∨ j + 5 ≤ j2) : Met l y_S_becomeLike w_S_becomeLike ({ frames := 2, cells := 0, slots := 0, locals := 51 } : Room) (gw_Pc D classes (gT cJ cI cZ cS) [.ref (a 0), .ref (b 0)] ws sz) (va_Qv (fun w => shAt cJ w j a n (lr_copy K2 K (n * n)) (lr_copy B2 B (n * n)) (E2) ∧ gF j (j + 5) ws w) (gw_B D classes (gT cJ cI cZ cS) ws sz) (va_A ws sz)) 0 0 (va_A ws sz) := by
  refine gw_head (by decide) (Nat.le_of_ble_eq_true rfl) (fun p e s m below meth c hsz hx hb hr hlocks hml hown hnm hts hK hN hP hD hS hA ls hl => ?_)
  have hown : s.vm.findClass R_S = some m.cls := hown
  have hT : ∀ w ∈ wG, w ∈ Cond.code y_S_becomeLike b_S_becomeLike 2 none :: wG := gd_t _
  have hF : CallFix p m c b_S_becomeLike 2 s ([.ref (a 0), .ref (b 0)] : List Value).toArray (Cond.code y_S_becomeLike b_S_becomeLike 2 none :: wG) R_S := ⟨hx, hb, hml, hown, hts⟩
  have hl : lv_has ls 2 [(0, .ref (a 0)), (1, .ref (b 0))] := hl
  obtain ⟨s0, ⟨sko, skc⟩, ⟨sbo, sbc⟩⟩ := hs
  obtain ⟨u0, ⟨uko, ukc⟩, ⟨ubo, ubc⟩⟩ := hs2
  have hfr : gF j (j + 5) ws ws := gF.rf
  refine lv_aload_n hx hb d_S_becomeLike_0 rfl (lv_at hl 0 rfl) ?_
  refine lv_aload_n hx hb d_S_becomeLike_1 rfl (lv_at hl 1 rfl) ?_
  refine gf_S_31 hF hT hK hP u0 rfl d_S_becomeLike_2 ?_
  refine gp_S_31 hF hT hK hP hD hS (fs1 := [.int (nI n), .ref (a 1), .ref (a 3), .int E2]) s0 (gz_n hE2) (gz_f hE2) (Nat.le_of_ble_eq_true rfl) rfl d_S_becomeLike_5 (fun w H locs s0 hf hP hD hS => ?_)
  have sko := hf.at sko (by omega)
  have skc := hf.at skc (by omega)
  have sbo := hf.at sbo (by omega)
  have sbc := hf.at sbc (by omega)
  have u0 := hf.at u0 (by omega)
  have uko := hf.at uko (by omega)
  have ukc := hf.at ukc (by omega)
  have ubo := hf.at ubo (by omega)
  have ubc := hf.at ubc (by omega)
  have hfr := hfr.in hf (by omega) (by omega)
  refine lv_aload_n hx hb d_S_becomeLike_8 rfl (lv_at hl 0 rfl) ?_
  refine gf_S_20 hF hT hK hP s0 rfl d_S_becomeLike_9 ?_
  refine lv_aload_n hx hb d_S_becomeLike_12 rfl (lv_at hl 1 rfl) ?_
  refine gf_S_20 hF hT hK hP u0 rfl d_S_becomeLike_13 ?_
  refine gw_cv (gc_S_41 (As := [.ref (b 1)]) (rest := []) hF hT (c_T_takeFrom ⟨sko, skc⟩ hn ⟨uko, ukc⟩) ⟨(Nat.le_of_ble_eq_true rfl), (Nat.le_of_ble_eq_true rfl)⟩ rfl rfl hK hN hP hD sko rfl hl.1 rfl (Nat.le_of_ble_eq_true rfl) d_S_becomeLike_16 ⟨(Nat.le_of_ble_eq_true rfl), (Nat.le_of_ble_eq_true rfl)⟩) hD hS hA (fun w H locs hw hP hD hS => ?_)
  obtain ⟨⟨sko, skc⟩, hf⟩ := hw
  have s0 := hf.at s0 (by omega)
  have sbo := hf.at sbo (by omega)
  have sbc := hf.at sbc (by omega)
  have u0 := hf.at u0 (by omega)
  have uko := hf.at uko (by omega)
  have ukc := hf.at ukc (by omega)
  have ubo := hf.at ubo (by omega)
  have ubc := hf.at ubc (by omega)
  have hfr := hfr.in hf (by omega) (by omega)
  refine lv_aload_n hx hb d_S_becomeLike_19 rfl (lv_at hl 0 rfl) ?_
  refine gf_S_24 hF hT hK hP s0 rfl d_S_becomeLike_20 ?_
  refine lv_aload_n hx hb d_S_becomeLike_23 rfl (lv_at hl 1 rfl) ?_
  refine gf_S_24 hF hT hK hP u0 rfl d_S_becomeLike_24 ?_
  refine gw_cv (gc_S_41 (As := [.ref (b 3)]) (rest := []) hF hT (c_T_takeFrom ⟨sbo, sbc⟩ hn ⟨ubo, ubc⟩) ⟨(Nat.le_of_ble_eq_true rfl), (Nat.le_of_ble_eq_true rfl)⟩ rfl rfl hK hN hP hD sbo rfl hl.1 rfl (Nat.le_of_ble_eq_true rfl) d_S_becomeLike_27 ⟨(Nat.le_of_ble_eq_true rfl), (Nat.le_of_ble_eq_true rfl)⟩) hD hS hA (fun w H locs hw hP hD hS => ?_)
  obtain ⟨⟨sbo, sbc⟩, hf⟩ := hw
  have s0 := hf.at s0 (by omega)
  have sko := hf.at sko (by omega)
  have skc := hf.at skc (by omega)
  have u0 := hf.at u0 (by omega)
  have uko := hf.at uko (by omega)
  have ukc := hf.at ukc (by omega)
  have ubo := hf.at ubo (by omega)
  have ubc := hf.at ubc (by omega)
  have hfr := hfr.in hf (by omega) (by omega)
  exact gw_vret hx hb hr hlocks hK hP hD hS (Nat.le_of_ble_eq_true rfl) (Nat.le_of_ble_eq_true rfl) d_S_becomeLike_30 ⟨⟨s0, ⟨sko, skc⟩, ⟨sbo, sbc⟩⟩, hfr⟩

set_option maxHeartbeats 4000000 in
set_option maxRecDepth 100000 in
theorem c_S_greatest {l : Launch} {D : va_G} {cJ cI cZ cS : ClassId} {ws : va_W} {sz : Nat} {j n : Nat} {a : Nat → Nat} {K B : Nat → Int64} {E : Int32} (hs : shAt cJ ws j a n K B E) (hn : n ≤ 10) (he : n % 2 = 0) {x y : Int32} (hx0 : lr_tm x n) (hy0 : lr_tm y n) : Met l y_S_greatest w_S_greatest ({ frames := 4, cells := 0, slots := 0, locals := 65 } : Room) (gw_Pc D classes (gT cJ cI cZ cS) [.ref (a 0), .int x, .int y] ws sz) (va_Ql (fun r w => (r = lr_gr B n E x y) ∧ w = ws) (gw_B D classes (gT cJ cI cZ cS) ws sz) (va_A ws sz)) 0 0 (va_A ws sz) := by
  refine gw_head (by decide) (Nat.le_of_ble_eq_true rfl) (fun p e s m below meth c hsz hx hb hr hlocks hml hown hnm hts hK hN hP hD hS hA ls hl => ?_)
  have hown : s.vm.findClass R_S = some m.cls := hown
  have hT : ∀ w ∈ wG, w ∈ Cond.code y_S_greatest b_S_greatest 3 (some .long) :: wG := gd_t _
  have hF : CallFix p m c b_S_greatest 3 s ([.ref (a 0), .int x, .int y] : List Value).toArray (Cond.code y_S_greatest b_S_greatest 3 (some .long) :: wG) R_S := ⟨hx, hb, hml, hown, hts⟩
  have hl : lv_has ls 3 [(0, .ref (a 0)), (1, .int x), (2, .int y)] := hl
  obtain ⟨s0, ⟨sko, skc⟩, ⟨sbo, sbc⟩⟩ := hs
  refine lv_aload_n hx hb d_S_greatest_0 rfl (lv_at hl 0 rfl) ?_
  refine gf_S_31 hF hT hK hP s0 rfl d_S_greatest_1 ?_
  refine lv_if_eq (tgt := 11) hx hb d_S_greatest_4 (by decide) (fun c1 => ?_) (fun c1 => ?_)
  · refine lv_iload_n hx hb d_S_greatest_11 rfl (lv_at hl 1 rfl) ?_
    refine lv_iload_n hx hb d_S_greatest_12 rfl (lv_at hl 2 rfl) ?_
    refine lv_ineg hx hb d_S_greatest_13 ?_
    refine lv_icmp_ne (tgt := 21) hx hb d_S_greatest_14 (by decide) (fun c2 => ?_) (fun c2 => ?_)
    · refine lv_aload_n hx hb d_S_greatest_21 rfl (lv_at hl 0 rfl) ?_
      refine gf_S_24 hF hT hK hP s0 rfl d_S_greatest_22 ?_
      refine lv_iload_n hx hb d_S_greatest_25 rfl (lv_at hl 1 rfl) ?_
      refine lv_iload_n hx hb d_S_greatest_26 rfl (lv_at hl 2 rfl) ?_
      refine gw_cl0 (gc_S_47 (As := [.int x, .int y]) (rest := []) hF hT (c_T_ofTerms ⟨sbo, sbc⟩ hn hx0.1 hy0.1 (fun q => c2 (by rw [q.1, q.2]; decide)) hx0.2 hy0.2) ⟨(Nat.le_of_ble_eq_true rfl), (Nat.le_of_ble_eq_true rfl)⟩ rfl rfl hK hN hP hD sbo rfl hl.1 rfl (Nat.le_of_ble_eq_true rfl) d_S_greatest_27 ⟨(Nat.le_of_ble_eq_true rfl), (Nat.le_of_ble_eq_true rfl)⟩) hD hS hA (fun r3 H locs e_r3 hP hD hS => ?_)
      subst e_r3
      exact gw_lret hx hb hr hlocks hK hP hD hS (Nat.le_of_ble_eq_true rfl) (Nat.le_of_ble_eq_true rfl) d_S_greatest_30 ⟨by unfold lr_gr; simp [c1, c2], rfl⟩
    · refine lv_lconst (v := 0) hx hb d_S_greatest_17 rfl ?_
      refine lv_goto (tgt := 30) hx hb d_S_greatest_18 (by decide) ?_
      exact gw_lret hx hb hr hlocks hK hP hD hS (Nat.le_of_ble_eq_true rfl) (Nat.le_of_ble_eq_true rfl) d_S_greatest_30 ⟨by unfold lr_gr; simp [c1, c2], rfl⟩
  · refine lv_ldc2 (v := (-4611686018427387904 : Int64)) hx hb hown (hts _ (hT _ wm_2_108)) d_S_greatest_7 ?_
    exact gw_lret hx hb hr hlocks hK hP hD hS (Nat.le_of_ble_eq_true rfl) (Nat.le_of_ble_eq_true rfl) d_S_greatest_10 ⟨by unfold lr_gr; simp [c1], rfl⟩

set_option maxHeartbeats 4000000 in
set_option maxRecDepth 100000 in
theorem c_S_closeKeptRows {l : Launch} {D : va_G} {cJ cI cZ cS : ClassId} {ws : va_W} {sz : Nat} {j n : Nat} {a : Nat → Nat} {K B : Nat → Int64} {E : Int32} (hs : shAt cJ ws j a n K B E) (hn : n ≤ 10) (he : n % 2 = 0) : Met l y_S_closeKeptRows w_S_closeKeptRows ({ frames := 5, cells := 0, slots := 0, locals := 91 } : Room) (gw_Pc D classes (gT cJ cI cZ cS) [.ref (a 0)] ws sz) (va_Qv (fun w => (∃ K1 B1 E1, lr_clO K B n E K1 B1 E1 ∧ shAt cJ w j a n K1 B1 E1) ∧ gF j (j + 5) ws w) (gw_B D classes (gT cJ cI cZ cS) ws sz) (va_A ws sz)) 0 0 (va_A ws sz) := by
  refine gw_head (by decide) (Nat.le_of_ble_eq_true rfl) (fun p e s m below meth c hsz hx hb hr hlocks hml hown hnm hts hK hN hP hD hS hA ls hl => ?_)
  have hown : s.vm.findClass R_S = some m.cls := hown
  have hT : ∀ w ∈ wG, w ∈ Cond.code y_S_closeKeptRows b_S_closeKeptRows 1 none :: wG := gd_t _
  have hF : CallFix p m c b_S_closeKeptRows 1 s ([.ref (a 0)] : List Value).toArray (Cond.code y_S_closeKeptRows b_S_closeKeptRows 1 none :: wG) R_S := ⟨hx, hb, hml, hown, hts⟩
  have hl : lv_has ls 1 [(0, .ref (a 0))] := hl
  obtain ⟨s0, ⟨sko, skc⟩, ⟨sbo, sbc⟩⟩ := hs
  have hfr : gF j (j + 5) ws ws := gF.rf
  refine lv_aload_n hx hb d_S_closeKeptRows_0 rfl (lv_at hl 0 rfl) ?_
  refine gf_S_24 hF hT hK hP s0 rfl d_S_closeKeptRows_1 ?_
  refine lv_aload_n hx hb d_S_closeKeptRows_4 rfl (lv_at hl 0 rfl) ?_
  refine gf_S_20 hF hT hK hP s0 rfl d_S_closeKeptRows_5 ?_
  refine gw_cv (gc_S_41 (As := [.ref (a 1)]) (rest := []) hF hT (c_T_takeFrom ⟨sbo, sbc⟩ hn ⟨sko, skc⟩) ⟨(Nat.le_of_ble_eq_true rfl), (Nat.le_of_ble_eq_true rfl)⟩ rfl rfl hK hN hP hD sbo rfl hl.1 rfl (Nat.le_of_ble_eq_true rfl) d_S_closeKeptRows_8 ⟨(Nat.le_of_ble_eq_true rfl), (Nat.le_of_ble_eq_true rfl)⟩) hD hS hA (fun w H locs hw hP hD hS => ?_)
  obtain ⟨⟨sbo, sbc⟩, hf⟩ := hw
  have s0 := hf.at s0 (by omega)
  have sko := hf.at sko (by omega)
  have skc := hf.at skc (by omega)
  have hfr := hfr.in hf (by omega) (by omega)
  refine lv_aload_n hx hb d_S_closeKeptRows_11 rfl (lv_at hl 0 rfl) ?_
  refine gf_S_24 hF hT hK hP s0 rfl d_S_closeKeptRows_12 ?_
  refine gw_ci (gc_S_111 (As := []) (rest := []) hF hT (c_T_close ⟨sbo, sbc⟩ hn he) ⟨(Nat.le_of_ble_eq_true rfl), (Nat.le_of_ble_eq_true rfl)⟩ rfl rfl hK hN hP hD sbo rfl hl.1 rfl (Nat.le_of_ble_eq_true rfl) d_S_closeKeptRows_15 ⟨(Nat.le_of_ble_eq_true rfl), (Nat.le_of_ble_eq_true rfl)⟩) hD hS hA (fun r1 w H locs hw hP hD hS => ?_)
  obtain ⟨hw, hf⟩ := hw
  obtain ⟨F2, h_r1, ⟨sbo, sbc⟩⟩ := lr_clW hw
  have s0 := hf.at s0 (by omega)
  have sko := hf.at sko (by omega)
  have skc := hf.at skc (by omega)
  have hfr := hfr.in hf (by omega) (by omega)
  refine lv_if_ne (tgt := 25) hx hb d_S_closeKeptRows_18 (by decide) (fun c3 => ?_) (fun c3 => ?_)
  · exact gw_vret hx hb hr hlocks hK hP hD hS (Nat.le_of_ble_eq_true rfl) (Nat.le_of_ble_eq_true rfl) d_S_closeKeptRows_25 ⟨⟨_, _, _, lr_clO1 h_r1 c3, ⟨s0, ⟨sko, skc⟩, ⟨sbo, sbc⟩⟩⟩, hfr⟩
  · refine lv_aload_n hx hb d_S_closeKeptRows_21 rfl (lv_at hl 0 rfl) ?_
    refine gw_cv (gc_S_51 (As := []) (rest := []) hF hT (c_S_becomeEmpty ⟨s0, ⟨sko, skc⟩, ⟨sbo, sbc⟩⟩ hn he) ⟨(Nat.le_of_ble_eq_true rfl), (Nat.le_of_ble_eq_true rfl)⟩ rfl rfl hK hN hP hD s0 rfl hl.1 rfl (Nat.le_of_ble_eq_true rfl) d_S_closeKeptRows_22 ⟨(Nat.le_of_ble_eq_true rfl), (Nat.le_of_ble_eq_true rfl)⟩) hD hS hA (fun w H locs hw hP hD hS => ?_)
    obtain ⟨⟨s0, ⟨sko, skc⟩, ⟨sbo, sbc⟩⟩, hf⟩ := hw
    have hfr := hfr.in hf (by omega) (by omega)
    exact gw_vret hx hb hr hlocks hK hP hD hS (Nat.le_of_ble_eq_true rfl) (Nat.le_of_ble_eq_true rfl) d_S_closeKeptRows_25 ⟨⟨_, _, _, lr_clO2 h_r1 c3, ⟨s0, ⟨sko, skc⟩, ⟨sbo, sbc⟩⟩⟩, hfr⟩

set_option maxHeartbeats 4000000 in
set_option maxRecDepth 100000 in
theorem c_S_keepBounds {l : Launch} {D : va_G} {cJ cI cZ cS : ClassId} {ws : va_W} {sz : Nat} {j n : Nat} {a : Nat → Nat} {K B : Nat → Int64} {E : Int32} (hs : shAt cJ ws j a n K B E) (hn : n ≤ 10) (he : n % 2 = 0) : Met l y_S_keepBounds w_S_keepBounds ({ frames := 2, cells := 0, slots := 0, locals := 51 } : Room) (gw_Pc D classes (gT cJ cI cZ cS) [.ref (a 0)] ws sz) (va_Qv (fun w => (∃ K1, lr_kbO K B n E K1 ∧ shAt cJ w j a n K1 B E) ∧ gF j (j + 5) ws w) (gw_B D classes (gT cJ cI cZ cS) ws sz) (va_A ws sz)) 0 0 (va_A ws sz) := by
  refine gw_head (by decide) (Nat.le_of_ble_eq_true rfl) (fun p e s m below meth c hsz hx hb hr hlocks hml hown hnm hts hK hN hP hD hS hA ls hl => ?_)
  have hown : s.vm.findClass R_S = some m.cls := hown
  have hT : ∀ w ∈ wG, w ∈ Cond.code y_S_keepBounds b_S_keepBounds 1 none :: wG := gd_t _
  have hF : CallFix p m c b_S_keepBounds 1 s ([.ref (a 0)] : List Value).toArray (Cond.code y_S_keepBounds b_S_keepBounds 1 none :: wG) R_S := ⟨hx, hb, hml, hown, hts⟩
  have hl : lv_has ls 1 [(0, .ref (a 0))] := hl
  obtain ⟨s0, ⟨sko, skc⟩, ⟨sbo, sbc⟩⟩ := hs
  have hfr : gF j (j + 5) ws ws := gF.rf
  refine lv_aload_n hx hb d_S_keepBounds_0 rfl (lv_at hl 0 rfl) ?_
  refine gf_S_31 hF hT hK hP s0 rfl d_S_keepBounds_1 ?_
  refine lv_if_eq (tgt := 8) hx hb d_S_keepBounds_4 (by decide) (fun c1 => ?_) (fun c1 => ?_)
  · refine lv_aload_n hx hb d_S_keepBounds_8 rfl (lv_at hl 0 rfl) ?_
    refine gf_S_20 hF hT hK hP s0 rfl d_S_keepBounds_9 ?_
    refine lv_aload_n hx hb d_S_keepBounds_12 rfl (lv_at hl 0 rfl) ?_
    refine gf_S_24 hF hT hK hP s0 rfl d_S_keepBounds_13 ?_
    refine gw_cv (gc_S_41 (As := [.ref (a 3)]) (rest := []) hF hT (c_T_takeFrom ⟨sko, skc⟩ hn ⟨sbo, sbc⟩) ⟨(Nat.le_of_ble_eq_true rfl), (Nat.le_of_ble_eq_true rfl)⟩ rfl rfl hK hN hP hD sko rfl hl.1 rfl (Nat.le_of_ble_eq_true rfl) d_S_keepBounds_16 ⟨(Nat.le_of_ble_eq_true rfl), (Nat.le_of_ble_eq_true rfl)⟩) hD hS hA (fun w H locs hw hP hD hS => ?_)
    obtain ⟨⟨sko, skc⟩, hf⟩ := hw
    have s0 := hf.at s0 (by omega)
    have sbo := hf.at sbo (by omega)
    have sbc := hf.at sbc (by omega)
    have hfr := hfr.in hf (by omega) (by omega)
    refine lv_aload_n hx hb d_S_keepBounds_19 rfl (lv_at hl 0 rfl) ?_
    refine gf_S_20 hF hT hK hP s0 rfl d_S_keepBounds_20 ?_
    refine lv_ldc2 (v := lr_E) hx hb hown (hts _ (hT _ wm_2_143)) d_S_keepBounds_23 ?_
    refine gw_cv (gc_S_27 (As := [.long lr_E]) (rest := []) hF hT (c_T_storeOpposites ⟨sko, skc⟩ hn he) ⟨(Nat.le_of_ble_eq_true rfl), (Nat.le_of_ble_eq_true rfl)⟩ rfl rfl hK hN hP hD sko rfl hl.1 rfl (Nat.le_of_ble_eq_true rfl) d_S_keepBounds_26 ⟨(Nat.le_of_ble_eq_true rfl), (Nat.le_of_ble_eq_true rfl)⟩) hD hS hA (fun w H locs hw hP hD hS => ?_)
    obtain ⟨⟨sko, skc⟩, hf⟩ := hw
    have s0 := hf.at s0 (by omega)
    have sbo := hf.at sbo (by omega)
    have sbc := hf.at sbc (by omega)
    have hfr := hfr.in hf (by omega) (by omega)
    exact gw_vret hx hb hr hlocks hK hP hD hS (Nat.le_of_ble_eq_true rfl) (Nat.le_of_ble_eq_true rfl) d_S_keepBounds_29 ⟨⟨_, Or.inr ⟨c1, rfl⟩, ⟨s0, ⟨sko, skc⟩, ⟨sbo, sbc⟩⟩⟩, hfr⟩
  · exact gw_vret hx hb hr hlocks hK hP hD hS (Nat.le_of_ble_eq_true rfl) (Nat.le_of_ble_eq_true rfl) d_S_keepBounds_7 ⟨⟨_, Or.inl ⟨c1, rfl⟩, ⟨s0, ⟨sko, skc⟩, ⟨sbo, sbc⟩⟩⟩, hfr⟩

set_option maxHeartbeats 4000000 in
set_option maxRecDepth 100000 in
theorem c_S_addRow {l : Launch} {D : va_G} {cJ cI cZ cS : ClassId} {ws : va_W} {sz : Nat} {j n : Nat} {a : Nat → Nat} {K B : Nat → Int64} {E : Int32} (hs : shAt cJ ws j a n K B E) (hn : n ≤ 10) (he : n % 2 = 0) {x y : Int32} {v : Int64} (hx0 : lr_tm x n) (hy0 : lr_tm y n) : Met l y_S_addRow w_S_addRow ({ frames := 6, cells := 0, slots := 0, locals := 111 } : Room) (gw_Pc D classes (gT cJ cI cZ cS) [.ref (a 0), .int x, .int y, .long v] ws sz) (va_Qv (fun w => (∃ K1 B1 E1, lr_addO K B n E x y v K1 B1 E1 ∧ shAt cJ w j a n K1 B1 E1) ∧ gF j (j + 5) ws w) (gw_B D classes (gT cJ cI cZ cS) ws sz) (va_A ws sz)) 0 0 (va_A ws sz) := by
  refine gw_head (by decide) (Nat.le_of_ble_eq_true rfl) (fun p e s m below meth c hsz hx hb hr hlocks hml hown hnm hts hK hN hP hD hS hA ls hl => ?_)
  have hown : s.vm.findClass R_S = some m.cls := hown
  have hT : ∀ w ∈ wG, w ∈ Cond.code y_S_addRow b_S_addRow 6 none :: wG := gd_t _
  have hF : CallFix p m c b_S_addRow 6 s ([.ref (a 0), .int x, .int y, .long v] : List Value).toArray (Cond.code y_S_addRow b_S_addRow 6 none :: wG) R_S := ⟨hx, hb, hml, hown, hts⟩
  have hl : lv_has ls 6 [(0, .ref (a 0)), (1, .int x), (2, .int y), (3, .long v)] := hl
  obtain ⟨s0, ⟨sko, skc⟩, ⟨sbo, sbc⟩⟩ := hs
  have hfr : gF j (j + 5) ws ws := gF.rf
  refine lv_aload_n hx hb d_S_addRow_0 rfl (lv_at hl 0 rfl) ?_
  refine gf_S_31 hF hT hK hP s0 rfl d_S_addRow_1 ?_
  refine lv_if_eq (tgt := 8) hx hb d_S_addRow_4 (by decide) (fun c1 => ?_) (fun c1 => ?_)
  · refine lv_iload_n hx hb d_S_addRow_8 rfl (lv_at hl 1 rfl) ?_
    refine lv_iload_n hx hb d_S_addRow_9 rfl (lv_at hl 2 rfl) ?_
    refine lv_ineg hx hb d_S_addRow_10 ?_
    refine lv_icmp_ne (tgt := 25) hx hb d_S_addRow_11 (by decide) (fun c2 => ?_) (fun c2 => ?_)
    · refine lv_iload_n hx hb d_S_addRow_25 rfl (lv_at hl 1 rfl) ?_
      refine lv_if_eq (tgt := 33) hx hb d_S_addRow_26 (by decide) (fun c3 => ?_) (fun c3 => ?_)
      · have hyn : ¬ y = 0 := fun q => c2 (by rw [c3, q]; decide)
        refine lv_iload_n hx hb d_S_addRow_33 rfl (lv_at hl 1 rfl) ?_
        refine lv_if_ne (tgt := 41) hx hb d_S_addRow_34 (by decide) (fun c4 => ?_) (fun c4 => ?_)
        · exact absurd ‹x = 0› ‹¬ x = 0›
        · refine lv_iload_n hx hb d_S_addRow_37 rfl (lv_at hl 2 rfl) ?_
          refine lv_goto (tgt := 42) hx hb d_S_addRow_38 (by decide) ?_
          refine gw_ci0 (gc_S_54 (As := [.int y]) (rest := []) hF hT (c_X_placeOf hy0.1 ‹¬ y = 0›) ⟨(Nat.le_of_ble_eq_true rfl), (Nat.le_of_ble_eq_true rfl)⟩ rfl rfl hK hN hP hD rfl hl.1 rfl (Nat.le_of_ble_eq_true rfl) d_S_addRow_42 ⟨(Nat.le_of_ble_eq_true rfl), (Nat.le_of_ble_eq_true rfl)⟩) hD hS hA (fun r5 H locs e_r5 hP hD hS => ?_)
          subst e_r5
          refine lv_istore (lv' := [(5, .int (nI (lr_pl y))), (0, .ref (a 0)), (1, .int x), (2, .int y), (3, .long v)]) hx hb d_S_addRow_45 hl (by decide) rfl (fun ls hl => ?_)
          refine lv_aload_n hx hb d_S_addRow_47 rfl (lv_at hl 1 rfl) ?_
          refine gf_S_20 hF hT hK hP s0 rfl d_S_addRow_48 ?_
          refine lv_iload hx hb d_S_addRow_51 (lv_at hl 0 rfl) ?_
          refine lv_iload hx hb d_S_addRow_53 (lv_at hl 0 rfl) ?_
          refine lv_ldc2 (v := (2 : Int64)) hx hb hown (hts _ (hT _ wm_2_12)) d_S_addRow_55 ?_
          refine lv_lload_n hx hb d_S_addRow_58 rfl (lv_at hl 4 rfl) ?_
          refine lv_lmul hx hb d_S_addRow_59 ?_
          refine gw_cv (gc_S_60 (As := [.int (nI (lr_pl y)), .int (nI (lr_pl y)), .long ((2 : Int64) * v)]) (rest := []) hF hT (c_T_lowerTo ⟨sko, skc⟩ hn (by first | exact hx0.2 ‹¬ x = 0› | exact hy0.2 ‹¬ y = 0›) (by first | exact hx0.2 ‹¬ x = 0› | exact hy0.2 ‹¬ y = 0›)) ⟨(Nat.le_of_ble_eq_true rfl), (Nat.le_of_ble_eq_true rfl)⟩ rfl rfl hK hN hP hD sko rfl hl.1 rfl (Nat.le_of_ble_eq_true rfl) d_S_addRow_60 ⟨(Nat.le_of_ble_eq_true rfl), (Nat.le_of_ble_eq_true rfl)⟩) hD hS hA (fun w H locs hw hP hD hS => ?_)
          obtain ⟨⟨sko, skc⟩, hf⟩ := hw
          have s0 := hf.at s0 (by omega)
          have sbo := hf.at sbo (by omega)
          have sbc := hf.at sbc (by omega)
          have hfr := hfr.in hf (by omega) (by omega)
          refine lv_goto (tgt := 116) hx hb d_S_addRow_63 (by decide) ?_
          refine lv_aload_n hx hb d_S_addRow_116 rfl (lv_at hl 1 rfl) ?_
          refine gw_cv (gc_S_70 (As := []) (rest := []) hF hT (c_S_closeKeptRows ⟨s0, ⟨sko, skc⟩, ⟨sbo, sbc⟩⟩ hn he) ⟨(Nat.le_of_ble_eq_true rfl), (Nat.le_of_ble_eq_true rfl)⟩ rfl rfl hK hN hP hD s0 rfl hl.1 rfl (Nat.le_of_ble_eq_true rfl) d_S_addRow_117 ⟨(Nat.le_of_ble_eq_true rfl), (Nat.le_of_ble_eq_true rfl)⟩) hD hS hA (fun w H locs hw hP hD hS => ?_)
          obtain ⟨⟨K6, B6, E6, o6, ⟨s0, ⟨sko, skc⟩, ⟨sbo, sbc⟩⟩⟩, hf⟩ := hw
          have hfr := hfr.in hf (by omega) (by omega)
          exact gw_vret hx hb hr hlocks hK hP hD hS (Nat.le_of_ble_eq_true rfl) (Nat.le_of_ble_eq_true rfl) d_S_addRow_120 ⟨⟨_, _, _, Or.inr (Or.inr (Or.inr ⟨c1, c2, by unfold lr_addK; simpa [c3] using o6⟩)), ⟨s0, ⟨sko, skc⟩, ⟨sbo, sbc⟩⟩⟩, hfr⟩
      · refine lv_iload_n hx hb d_S_addRow_29 rfl (lv_at hl 2 rfl) ?_
        refine lv_if_ne (tgt := 66) hx hb d_S_addRow_30 (by decide) (fun c7 => ?_) (fun c7 => ?_)
        · refine lv_iload_n hx hb d_S_addRow_66 rfl (lv_at hl 1 rfl) ?_
          refine lv_iload_n hx hb d_S_addRow_67 rfl (lv_at hl 2 rfl) ?_
          refine lv_icmp_ne (tgt := 100) hx hb d_S_addRow_68 (by decide) (fun c8 => ?_) (fun c8 => ?_)
          · refine lv_aload_n hx hb d_S_addRow_100 rfl (lv_at hl 0 rfl) ?_
            refine gf_S_20 hF hT hK hP s0 rfl d_S_addRow_101 ?_
            refine lv_iload_n hx hb d_S_addRow_104 rfl (lv_at hl 1 rfl) ?_
            refine gw_ci0 (gc_S_54 (As := [.int x]) (rest := [.ref (a 1)]) hF hT (c_X_placeOf hx0.1 ‹¬ x = 0›) ⟨(Nat.le_of_ble_eq_true rfl), (Nat.le_of_ble_eq_true rfl)⟩ rfl rfl hK hN hP hD rfl hl.1 rfl (Nat.le_of_ble_eq_true rfl) d_S_addRow_105 ⟨(Nat.le_of_ble_eq_true rfl), (Nat.le_of_ble_eq_true rfl)⟩) hD hS hA (fun r9 H locs e_r9 hP hD hS => ?_)
            subst e_r9
            refine lv_iload_n hx hb d_S_addRow_108 rfl (lv_at hl 2 rfl) ?_
            refine gw_ci0 (gc_S_54 (As := [.int y]) (rest := [.int (nI (lr_pl x)), .ref (a 1)]) hF hT (c_X_placeOf hy0.1 ‹¬ y = 0›) ⟨(Nat.le_of_ble_eq_true rfl), (Nat.le_of_ble_eq_true rfl)⟩ rfl rfl hK hN hP hD rfl hl.1 rfl (Nat.le_of_ble_eq_true rfl) d_S_addRow_109 ⟨(Nat.le_of_ble_eq_true rfl), (Nat.le_of_ble_eq_true rfl)⟩) hD hS hA (fun r10 H locs e_r10 hP hD hS => ?_)
            subst e_r10
            refine lv_lload_n hx hb d_S_addRow_112 rfl (lv_at hl 3 rfl) ?_
            refine gw_cv (gc_S_60 (As := [.int (nI (lr_pl x)), .int (nI (lr_pl y)), .long v]) (rest := []) hF hT (c_T_lowerTo ⟨sko, skc⟩ hn (hx0.2 ‹¬ x = 0›) (hy0.2 ‹¬ y = 0›)) ⟨(Nat.le_of_ble_eq_true rfl), (Nat.le_of_ble_eq_true rfl)⟩ rfl rfl hK hN hP hD sko rfl hl.1 rfl (Nat.le_of_ble_eq_true rfl) d_S_addRow_113 ⟨(Nat.le_of_ble_eq_true rfl), (Nat.le_of_ble_eq_true rfl)⟩) hD hS hA (fun w H locs hw hP hD hS => ?_)
            obtain ⟨⟨sko, skc⟩, hf⟩ := hw
            have s0 := hf.at s0 (by omega)
            have sbo := hf.at sbo (by omega)
            have sbc := hf.at sbc (by omega)
            have hfr := hfr.in hf (by omega) (by omega)
            refine lv_aload_n hx hb d_S_addRow_116 rfl (lv_at hl 0 rfl) ?_
            refine gw_cv (gc_S_70 (As := []) (rest := []) hF hT (c_S_closeKeptRows ⟨s0, ⟨sko, skc⟩, ⟨sbo, sbc⟩⟩ hn he) ⟨(Nat.le_of_ble_eq_true rfl), (Nat.le_of_ble_eq_true rfl)⟩ rfl rfl hK hN hP hD s0 rfl hl.1 rfl (Nat.le_of_ble_eq_true rfl) d_S_addRow_117 ⟨(Nat.le_of_ble_eq_true rfl), (Nat.le_of_ble_eq_true rfl)⟩) hD hS hA (fun w H locs hw hP hD hS => ?_)
            obtain ⟨⟨K11, B11, E11, o11, ⟨s0, ⟨sko, skc⟩, ⟨sbo, sbc⟩⟩⟩, hf⟩ := hw
            have hfr := hfr.in hf (by omega) (by omega)
            exact gw_vret hx hb hr hlocks hK hP hD hS (Nat.le_of_ble_eq_true rfl) (Nat.le_of_ble_eq_true rfl) d_S_addRow_120 ⟨⟨_, _, _, Or.inr (Or.inr (Or.inr ⟨c1, c2, by unfold lr_addK; simpa [c3, c7, c8] using o11⟩)), ⟨s0, ⟨sko, skc⟩, ⟨sbo, sbc⟩⟩⟩, hfr⟩
          · refine lv_aload_n hx hb d_S_addRow_71 rfl (lv_at hl 0 rfl) ?_
            refine gf_S_20 hF hT hK hP s0 rfl d_S_addRow_72 ?_
            refine lv_iload_n hx hb d_S_addRow_75 rfl (lv_at hl 1 rfl) ?_
            refine gw_ci0 (gc_S_54 (As := [.int x]) (rest := [.ref (a 1)]) hF hT (c_X_placeOf hx0.1 ‹¬ x = 0›) ⟨(Nat.le_of_ble_eq_true rfl), (Nat.le_of_ble_eq_true rfl)⟩ rfl rfl hK hN hP hD rfl hl.1 rfl (Nat.le_of_ble_eq_true rfl) d_S_addRow_76 ⟨(Nat.le_of_ble_eq_true rfl), (Nat.le_of_ble_eq_true rfl)⟩) hD hS hA (fun r12 H locs e_r12 hP hD hS => ?_)
            subst e_r12
            refine lv_iload_n hx hb d_S_addRow_79 rfl (lv_at hl 1 rfl) ?_
            refine gw_ci0 (gc_S_54 (As := [.int x]) (rest := [.int (nI (lr_pl x)), .ref (a 1)]) hF hT (c_X_placeOf hx0.1 ‹¬ x = 0›) ⟨(Nat.le_of_ble_eq_true rfl), (Nat.le_of_ble_eq_true rfl)⟩ rfl rfl hK hN hP hD rfl hl.1 rfl (Nat.le_of_ble_eq_true rfl) d_S_addRow_80 ⟨(Nat.le_of_ble_eq_true rfl), (Nat.le_of_ble_eq_true rfl)⟩) hD hS hA (fun r13 H locs e_r13 hP hD hS => ?_)
            subst e_r13
            refine lv_ldc2 (v := (2 : Int64)) hx hb hown (hts _ (hT _ wm_2_12)) d_S_addRow_83 ?_
            refine lv_lload_n hx hb d_S_addRow_86 rfl (lv_at hl 3 rfl) ?_
            refine lv_ldc2 (v := (2 : Int64)) hx hb hown (hts _ (hT _ wm_2_12)) d_S_addRow_87 ?_
            refine gw_cl0 (gc_S_64 (As := [.long v, .long (2 : Int64)]) (rest := [.long (2 : Int64), .int (nI (lr_pl x)), .int (nI (lr_pl x)), .ref (a 1)]) hF hT (c_JM_floorDiv (by decide)) ⟨(Nat.le_of_ble_eq_true rfl), (Nat.le_of_ble_eq_true rfl)⟩ rfl rfl hK hN hP hD rfl hl.1 rfl (Nat.le_of_ble_eq_true rfl) d_S_addRow_90 ⟨(Nat.le_of_ble_eq_true rfl), (Nat.le_of_ble_eq_true rfl)⟩) hD hS hA (fun r14 H locs e_r14 hP hD hS => ?_)
            subst e_r14
            refine lv_lmul hx hb d_S_addRow_93 ?_
            refine gw_cv (gc_S_60 (As := [.int (nI (lr_pl x)), .int (nI (lr_pl x)), .long ((2 : Int64) * (lr_fd v (2 : Int64)))]) (rest := []) hF hT (c_T_lowerTo ⟨sko, skc⟩ hn (hx0.2 ‹¬ x = 0›) (hx0.2 ‹¬ x = 0›)) ⟨(Nat.le_of_ble_eq_true rfl), (Nat.le_of_ble_eq_true rfl)⟩ rfl rfl hK hN hP hD sko rfl hl.1 rfl (Nat.le_of_ble_eq_true rfl) d_S_addRow_94 ⟨(Nat.le_of_ble_eq_true rfl), (Nat.le_of_ble_eq_true rfl)⟩) hD hS hA (fun w H locs hw hP hD hS => ?_)
            obtain ⟨⟨sko, skc⟩, hf⟩ := hw
            have s0 := hf.at s0 (by omega)
            have sbo := hf.at sbo (by omega)
            have sbc := hf.at sbc (by omega)
            have hfr := hfr.in hf (by omega) (by omega)
            refine lv_goto (tgt := 116) hx hb d_S_addRow_97 (by decide) ?_
            refine lv_aload_n hx hb d_S_addRow_116 rfl (lv_at hl 0 rfl) ?_
            refine gw_cv (gc_S_70 (As := []) (rest := []) hF hT (c_S_closeKeptRows ⟨s0, ⟨sko, skc⟩, ⟨sbo, sbc⟩⟩ hn he) ⟨(Nat.le_of_ble_eq_true rfl), (Nat.le_of_ble_eq_true rfl)⟩ rfl rfl hK hN hP hD s0 rfl hl.1 rfl (Nat.le_of_ble_eq_true rfl) d_S_addRow_117 ⟨(Nat.le_of_ble_eq_true rfl), (Nat.le_of_ble_eq_true rfl)⟩) hD hS hA (fun w H locs hw hP hD hS => ?_)
            obtain ⟨⟨K15, B15, E15, o15, ⟨s0, ⟨sko, skc⟩, ⟨sbo, sbc⟩⟩⟩, hf⟩ := hw
            have hfr := hfr.in hf (by omega) (by omega)
            exact gw_vret hx hb hr hlocks hK hP hD hS (Nat.le_of_ble_eq_true rfl) (Nat.le_of_ble_eq_true rfl) d_S_addRow_120 ⟨⟨_, _, _, Or.inr (Or.inr (Or.inr ⟨c1, c2, by unfold lr_addK; simpa [c3, c7, c8] using o15⟩)), ⟨s0, ⟨sko, skc⟩, ⟨sbo, sbc⟩⟩⟩, hfr⟩
        · refine lv_iload_n hx hb d_S_addRow_33 rfl (lv_at hl 1 rfl) ?_
          refine lv_if_ne (tgt := 41) hx hb d_S_addRow_34 (by decide) (fun c16 => ?_) (fun c16 => ?_)
          · refine lv_iload_n hx hb d_S_addRow_41 rfl (lv_at hl 1 rfl) ?_
            refine gw_ci0 (gc_S_54 (As := [.int x]) (rest := []) hF hT (c_X_placeOf hx0.1 ‹¬ x = 0›) ⟨(Nat.le_of_ble_eq_true rfl), (Nat.le_of_ble_eq_true rfl)⟩ rfl rfl hK hN hP hD rfl hl.1 rfl (Nat.le_of_ble_eq_true rfl) d_S_addRow_42 ⟨(Nat.le_of_ble_eq_true rfl), (Nat.le_of_ble_eq_true rfl)⟩) hD hS hA (fun r17 H locs e_r17 hP hD hS => ?_)
            subst e_r17
            refine lv_istore (lv' := [(5, .int (nI (lr_pl x))), (0, .ref (a 0)), (1, .int x), (2, .int y), (3, .long v)]) hx hb d_S_addRow_45 hl (by decide) rfl (fun ls hl => ?_)
            refine lv_aload_n hx hb d_S_addRow_47 rfl (lv_at hl 1 rfl) ?_
            refine gf_S_20 hF hT hK hP s0 rfl d_S_addRow_48 ?_
            refine lv_iload hx hb d_S_addRow_51 (lv_at hl 0 rfl) ?_
            refine lv_iload hx hb d_S_addRow_53 (lv_at hl 0 rfl) ?_
            refine lv_ldc2 (v := (2 : Int64)) hx hb hown (hts _ (hT _ wm_2_12)) d_S_addRow_55 ?_
            refine lv_lload_n hx hb d_S_addRow_58 rfl (lv_at hl 4 rfl) ?_
            refine lv_lmul hx hb d_S_addRow_59 ?_
            refine gw_cv (gc_S_60 (As := [.int (nI (lr_pl x)), .int (nI (lr_pl x)), .long ((2 : Int64) * v)]) (rest := []) hF hT (c_T_lowerTo ⟨sko, skc⟩ hn (by first | exact hx0.2 ‹¬ x = 0› | exact hy0.2 ‹¬ y = 0›) (by first | exact hx0.2 ‹¬ x = 0› | exact hy0.2 ‹¬ y = 0›)) ⟨(Nat.le_of_ble_eq_true rfl), (Nat.le_of_ble_eq_true rfl)⟩ rfl rfl hK hN hP hD sko rfl hl.1 rfl (Nat.le_of_ble_eq_true rfl) d_S_addRow_60 ⟨(Nat.le_of_ble_eq_true rfl), (Nat.le_of_ble_eq_true rfl)⟩) hD hS hA (fun w H locs hw hP hD hS => ?_)
            obtain ⟨⟨sko, skc⟩, hf⟩ := hw
            have s0 := hf.at s0 (by omega)
            have sbo := hf.at sbo (by omega)
            have sbc := hf.at sbc (by omega)
            have hfr := hfr.in hf (by omega) (by omega)
            refine lv_goto (tgt := 116) hx hb d_S_addRow_63 (by decide) ?_
            refine lv_aload_n hx hb d_S_addRow_116 rfl (lv_at hl 1 rfl) ?_
            refine gw_cv (gc_S_70 (As := []) (rest := []) hF hT (c_S_closeKeptRows ⟨s0, ⟨sko, skc⟩, ⟨sbo, sbc⟩⟩ hn he) ⟨(Nat.le_of_ble_eq_true rfl), (Nat.le_of_ble_eq_true rfl)⟩ rfl rfl hK hN hP hD s0 rfl hl.1 rfl (Nat.le_of_ble_eq_true rfl) d_S_addRow_117 ⟨(Nat.le_of_ble_eq_true rfl), (Nat.le_of_ble_eq_true rfl)⟩) hD hS hA (fun w H locs hw hP hD hS => ?_)
            obtain ⟨⟨K18, B18, E18, o18, ⟨s0, ⟨sko, skc⟩, ⟨sbo, sbc⟩⟩⟩, hf⟩ := hw
            have hfr := hfr.in hf (by omega) (by omega)
            exact gw_vret hx hb hr hlocks hK hP hD hS (Nat.le_of_ble_eq_true rfl) (Nat.le_of_ble_eq_true rfl) d_S_addRow_120 ⟨⟨_, _, _, Or.inr (Or.inr (Or.inr ⟨c1, c2, by unfold lr_addK; simpa [c3, c7] using o18⟩)), ⟨s0, ⟨sko, skc⟩, ⟨sbo, sbc⟩⟩⟩, hfr⟩
          · exact absurd ‹x = 0› ‹¬ x = 0›
    · refine lv_lload_n hx hb d_S_addRow_14 rfl (lv_at hl 3 rfl) ?_
      refine lv_lconst (v := 0) hx hb d_S_addRow_15 rfl ?_
      refine gx_lge (tgt := 24) hx hb d_S_addRow_16 d_S_addRow_17 (by decide) (fun c19 => ?_) (fun c19 => ?_)
      · exact gw_vret hx hb hr hlocks hK hP hD hS (Nat.le_of_ble_eq_true rfl) (Nat.le_of_ble_eq_true rfl) d_S_addRow_24 ⟨⟨_, _, _, Or.inr (Or.inl ⟨c1, c2, c19, rfl, rfl, rfl⟩), ⟨s0, ⟨sko, skc⟩, ⟨sbo, sbc⟩⟩⟩, hfr⟩
      · refine lv_aload_n hx hb d_S_addRow_20 rfl (lv_at hl 0 rfl) ?_
        refine gw_cv (gc_S_51 (As := []) (rest := []) hF hT (c_S_becomeEmpty ⟨s0, ⟨sko, skc⟩, ⟨sbo, sbc⟩⟩ hn he) ⟨(Nat.le_of_ble_eq_true rfl), (Nat.le_of_ble_eq_true rfl)⟩ rfl rfl hK hN hP hD s0 rfl hl.1 rfl (Nat.le_of_ble_eq_true rfl) d_S_addRow_21 ⟨(Nat.le_of_ble_eq_true rfl), (Nat.le_of_ble_eq_true rfl)⟩) hD hS hA (fun w H locs hw hP hD hS => ?_)
        obtain ⟨⟨s0, ⟨sko, skc⟩, ⟨sbo, sbc⟩⟩, hf⟩ := hw
        have hfr := hfr.in hf (by omega) (by omega)
        exact gw_vret hx hb hr hlocks hK hP hD hS (Nat.le_of_ble_eq_true rfl) (Nat.le_of_ble_eq_true rfl) d_S_addRow_24 ⟨⟨_, _, _, Or.inr (Or.inr (Or.inl ⟨c1, c2, c19, rfl, ⟨_, rfl⟩, rfl⟩)), ⟨s0, ⟨sko, skc⟩, ⟨sbo, sbc⟩⟩⟩, hfr⟩
  · exact gw_vret hx hb hr hlocks hK hP hD hS (Nat.le_of_ble_eq_true rfl) (Nat.le_of_ble_eq_true rfl) d_S_addRow_7 ⟨⟨_, _, _, Or.inl ⟨c1, rfl, rfl, rfl⟩, ⟨s0, ⟨sko, skc⟩, ⟨sbo, sbc⟩⟩⟩, hfr⟩
