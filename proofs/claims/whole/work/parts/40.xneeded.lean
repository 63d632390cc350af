set_option maxHeartbeats 4000000 in
set_option maxRecDepth 100000 in
theorem c_X_leaveOutPairs {l : Launch} {D : va_G} {cJ cI cZ cS : ClassId} {ws : va_W} {sz : Nat} {b N : Nat} {A : Nat → Nat} {sf : Nat → Option Nat} {K B : Nat → Nat → Int64} {E : Nat → Int32} {Km Bm : Nat → Int64} {Em : Int32} {Lf Tr nu ne : Nat → Int64} {ct : Int32} (hx0 : xAt cJ cS ws b A N sf K B E Km Bm Em Lf Tr nu ne ct) (hN1 : 1 ≤ N) (hN5 : N ≤ 5) : Met l y_X_leaveOutPairs w_X_leaveOutPairs ({ frames := 6, cells := 0, slots := 0, locals := 115 } : Room) (gw_Pc D classes (gT cJ cI cZ cS) [.ref (A 0)] ws sz) (va_Qv (fun w => (∃ L2 T2, lr_lvP (2 * N) (2 * N) Lf L2 ∧ xAt cJ cS w b A N sf K B E Km Bm Em L2 T2 nu ne ct) ∧ gF b (b + 53) ws w) (gw_B D classes (gT cJ cI cZ cS) ws sz) (va_A ws sz)) 0 0 (va_A ws sz) := by
  refine gw_head (by decide) (Nat.le_of_ble_eq_true rfl) (fun p e s m below meth c hsz hx hb hr hlocks hml hown hnm hts hK hN hP hD hS hA ls hl => ?_)
  have hown : s.vm.findClass R_X = some m.cls := hown
  have hT : ∀ w ∈ wG, w ∈ Cond.code y_X_leaveOutPairs b_X_leaveOutPairs 3 none :: wG := gd_t _
  have hF : CallFix p m c b_X_leaveOutPairs 3 s ([.ref (A 0)] : List Value).toArray (Cond.code y_X_leaveOutPairs b_X_leaveOutPairs 3 none :: wG) R_X := ⟨hx, hb, hml, hown, hts⟩
  have hl : lv_has ls 3 [(0, .ref (A 0))] := hl
  obtain ⟨x0, x1, hsf, hX, ⟨s0, ⟨sko, skc⟩, ⟨sbo, sbc⟩⟩, ⟨lo, lc⟩, ⟨to, tc⟩, xn, xr⟩ := hx0
  have hn : 2 * N ≤ 10 := by omega
  have he : 2 * N % 2 = 0 := by omega
  have hfr : gF b (b + 53) ws ws := gF.rf
  refine lv_aload_n hx hb d_X_leaveOutPairs_0 rfl (lv_at hl 0 rfl) ?_
  refine gf_X_22 hF hT hK hP x0 rfl d_X_leaveOutPairs_1 ?_
  refine lv_iconst (v := nI 1) hx hb d_X_leaveOutPairs_4 (by decide) ?_
  refine lv_isub hx hb d_X_leaveOutPairs_5 ?_
  refine gx_i (y := nI (2 * N) - nI (0 + 1)) rfl ?_
  refine lv_istore_n (lv' := [(1, .int (nI (2 * N) - nI (0 + 1))), (0, .ref (A 0))]) hx hb d_X_leaveOutPairs_6 rfl hl (by decide) rfl (fun ls hl => ?_)
  have lp_7 : ∀ (dd t : Nat), t + dd = (2 * N) → ∀ (w : va_W) (H : Heap) (locs : List Loc) (ls : Array Slot) (L1 T1 : Nat → Int64), w[b]? = some (A 0, .inr (2, [.int (nI N), .int (nI (2 * N)), .ref (A 1), .ref (xmd A 0), .ref (A 47), .ref (A 49), .ref (A 51), .ref (A 52), .int ct])) → w[b + 1]? = some (A 1, .inl (cS, 8, .inr (.inr (.inr (.inr sf))))) → w[b + 42]? = some (xmd A 0, .inr (1, [.int (nI (2 * N)), .ref (xmd A 1), .ref (xmd A 3), .int Em])) → w[b + 42 + 1]? = some (xmd A 1, .inr (0, [.int (nI (2 * N)), .ref (xmd A 2)])) → w[b + 42 + 1 + 1]? = some (xmd A 2, .inl (cJ, (2 * N) * (2 * N), .inr (.inl Km))) → w[b + 42 + 3]? = some (xmd A 3, .inr (0, [.int (nI (2 * N)), .ref (xmd A 4)])) → w[b + 42 + 3 + 1]? = some (xmd A 4, .inl (cJ, (2 * N) * (2 * N), .inr (.inl Bm))) → w[b + 47]? = some (A 47, .inr (0, [.int (nI (2 * N)), .ref (A 48)])) → w[b + 47 + 1]? = some (A 48, .inl (cJ, (2 * N) * (2 * N), .inr (.inl L1))) → w[b + 49]? = some (A 49, .inr (0, [.int (nI (2 * N)), .ref (A 50)])) → w[b + 49 + 1]? = some (A 50, .inl (cJ, (2 * N) * (2 * N), .inr (.inl T1))) → w[b + 51]? = some (A 51, .inl (cJ, N, .inr (.inl nu))) → w[b + 52]? = some (A 52, .inl (cJ, 6 * (N * N), .inr (.inl ne))) → xFam cJ w b A (2 * N) K B E → lr_lvP (2 * N) t Lf L1 → gF b (b + 53) ws w → va_P D classes w H → va_D (va_A ws sz) w → va_S (va_A ws sz) s.heap H locs → lv_has ls 3 [(1, .int (nI (2 * N) - nI (t + 1))), (0, .ref (A 0))] → W p l e ({ frames := 6, cells := 0, slots := 0, locals := 115 } : Room) s m ([.ref (A 0)] : List Value).toArray below meth c H locs 0 0 (MQ below (va_Qv (fun w => (∃ L2 T2, lr_lvP (2 * N) (2 * N) Lf L2 ∧ xAt cJ cS w b A N sf K B E Km Bm Em L2 T2 nu ne ct) ∧ gF b (b + 53) ws w) (gw_B D classes (gT cJ cI cZ cS) ws sz) (va_A ws sz)) ([.ref (A 0)] : List Value).toArray s 0 0 (va_A ws sz)) (F0 m 7 ls []) := by
    intro dd
    induction dd with
    | zero =>
      intro t e_t w H locs ls L1 T1 x0 x1 s0 sko skc sbo sbc lo lc to tc xn xr hX hr1 hfr hP hD hS hl
      have e0_t : (2 * N) = t := by omega
      subst e0_t
      refine lv_iload_n hx hb d_X_leaveOutPairs_7 rfl (lv_at hl 0 rfl) ?_
      refine lv_if_lt (tgt := 44) hx hb d_X_leaveOutPairs_8 (by decide) (fun c1 => ?_) (fun c1 => ?_)
      · exact gw_vret hx hb hr hlocks hK hP hD hS (Nat.le_of_ble_eq_true rfl) (Nat.le_of_ble_eq_true rfl) d_X_leaveOutPairs_44 ⟨⟨_, _, hr1, ⟨x0, x1, hsf, hX, ⟨s0, ⟨sko, skc⟩, ⟨sbo, sbc⟩⟩, ⟨lo, lc⟩, ⟨to, tc⟩, xn, xr⟩⟩, hfr⟩
      · exact absurd (pk_sneg (by omega) (by omega)) c1
    | succ dd ih_7 =>
      intro t e_t w H locs ls L1 T1 x0 x1 s0 sko skc sbo sbc lo lc to tc xn xr hX hr1 hfr hP hD hS hl
      rw [pk_sub (by omega)] at hl
      have hnx := lr_nx_le (i := 2 * N - (t + 1)) (N := N) (by omega)
      refine lv_iload_n hx hb d_X_leaveOutPairs_7 rfl (lv_at hl 0 rfl) ?_
      refine lv_if_lt (tgt := 44) hx hb d_X_leaveOutPairs_8 (by decide) (fun c2 => ?_) (fun c2 => ?_)
      · have c2 := (nI_ltI (a := (2 * N - (t + 1))) (b := 0) (by omega) (by omega)).mp c2
        exfalso; omega
      · have c2 : ¬ (2 * N - (t + 1) < 0) := fun z => c2 ((nI_ltI (a := (2 * N - (t + 1))) (b := 0) (by omega) (by omega)).mpr z)
        refine lv_aload_n hx hb d_X_leaveOutPairs_11 rfl (lv_at hl 1 rfl) ?_
        refine gf_X_22 hF hT hK hP x0 rfl d_X_leaveOutPairs_12 ?_
        refine lv_iconst (v := nI 1) hx hb d_X_leaveOutPairs_15 (by decide) ?_
        refine lv_isub hx hb d_X_leaveOutPairs_16 ?_
        refine gx_i (y := nI ((2 * N) - 1)) (pk_sub (by omega)) ?_
        refine lv_istore_n (lv' := [(2, .int (nI ((2 * N) - 1))), (1, .int (nI (2 * N - (t + 1)))), (0, .ref (A 0))]) hx hb d_X_leaveOutPairs_17 rfl hl (by decide) rfl (fun ls hl => ?_)
        have lp_18 : ∀ (dd u : Nat), u + dd = (2 * N - lr_nx (2 * N - (t + 1))) → ∀ (w : va_W) (H : Heap) (locs : List Loc) (ls : Array Slot) (L3 T3 : Nat → Int64), w[b]? = some (A 0, .inr (2, [.int (nI N), .int (nI (2 * N)), .ref (A 1), .ref (xmd A 0), .ref (A 47), .ref (A 49), .ref (A 51), .ref (A 52), .int ct])) → w[b + 1]? = some (A 1, .inl (cS, 8, .inr (.inr (.inr (.inr sf))))) → w[b + 42]? = some (xmd A 0, .inr (1, [.int (nI (2 * N)), .ref (xmd A 1), .ref (xmd A 3), .int Em])) → w[b + 42 + 1]? = some (xmd A 1, .inr (0, [.int (nI (2 * N)), .ref (xmd A 2)])) → w[b + 42 + 1 + 1]? = some (xmd A 2, .inl (cJ, (2 * N) * (2 * N), .inr (.inl Km))) → w[b + 42 + 3]? = some (xmd A 3, .inr (0, [.int (nI (2 * N)), .ref (xmd A 4)])) → w[b + 42 + 3 + 1]? = some (xmd A 4, .inl (cJ, (2 * N) * (2 * N), .inr (.inl Bm))) → w[b + 47]? = some (A 47, .inr (0, [.int (nI (2 * N)), .ref (A 48)])) → w[b + 47 + 1]? = some (A 48, .inl (cJ, (2 * N) * (2 * N), .inr (.inl L3))) → w[b + 49]? = some (A 49, .inr (0, [.int (nI (2 * N)), .ref (A 50)])) → w[b + 49 + 1]? = some (A 50, .inl (cJ, (2 * N) * (2 * N), .inr (.inl T3))) → w[b + 51]? = some (A 51, .inl (cJ, N, .inr (.inl nu))) → w[b + 52]? = some (A 52, .inl (cJ, 6 * (N * N), .inr (.inl ne))) → xFam cJ w b A (2 * N) K B E → lr_run (fun u L L2 => lr_lea (2 * N) (2 * N - (t + 1)) (2 * N - 1 - u) L L2) u L1 L3 → gF b (b + 53) ws w → va_P D classes w H → va_D (va_A ws sz) w → va_S (va_A ws sz) s.heap H locs → lv_has ls 3 [(2, .int (nI (2 * N - 1 - u))), (1, .int (nI (2 * N - (t + 1)))), (0, .ref (A 0))] → W p l e ({ frames := 6, cells := 0, slots := 0, locals := 115 } : Room) s m ([.ref (A 0)] : List Value).toArray below meth c H locs 0 0 (MQ below (va_Qv (fun w => (∃ L2 T2, lr_lvP (2 * N) (2 * N) Lf L2 ∧ xAt cJ cS w b A N sf K B E Km Bm Em L2 T2 nu ne ct) ∧ gF b (b + 53) ws w) (gw_B D classes (gT cJ cI cZ cS) ws sz) (va_A ws sz)) ([.ref (A 0)] : List Value).toArray s 0 0 (va_A ws sz)) (F0 m 18 ls []) := by
          intro dd
          induction dd with
          | zero =>
            intro u e_u w H locs ls L3 T3 x0 x1 s0 sko skc sbo sbc lo lc to tc xn xr hX hr2 hfr hP hD hS hl
            have e0_u : (2 * N - lr_nx (2 * N - (t + 1))) = u := by omega
            subst e0_u
            refine lv_iload_n hx hb d_X_leaveOutPairs_18 rfl (lv_at hl 0 rfl) ?_
            refine lv_iload_n hx hb d_X_leaveOutPairs_19 rfl (lv_at hl 1 rfl) ?_
            refine gw_ci0 (gc_X_228 (As := [.int (nI (2 * N - (t + 1)))]) (rest := [.int (nI (2 * N - 1 - (2 * N - lr_nx (2 * N - (t + 1)))))]) hF hT (c_X_placeOfNextName (i := 2 * N - (t + 1)) (by omega)) ⟨(Nat.le_of_ble_eq_true rfl), (Nat.le_of_ble_eq_true rfl)⟩ rfl rfl hK hN hP hD rfl hl.1 rfl (Nat.le_of_ble_eq_true rfl) d_X_leaveOutPairs_20 ⟨(Nat.le_of_ble_eq_true rfl), (Nat.le_of_ble_eq_true rfl)⟩) hD hS hA (fun r3 H locs e_r3 hP hD hS => ?_)
            subst e_r3
            refine lv_icmp_lt (tgt := 38) hx hb d_X_leaveOutPairs_23 (by decide) (fun c4 => ?_) (fun c4 => ?_)
            · have c4 := (nI_ltI (a := (2 * N - 1 - (2 * N - lr_nx (2 * N - (t + 1))))) (b := (lr_nx (2 * N - (t + 1)))) (by omega) (by omega)).mp c4
              refine lv_iinc (v := nI (2 * N) - nI (t + 1 + 1)) (lv' := [(1, .int (nI (2 * N) - nI (t + 1 + 1))), (2, .int (nI (2 * N - 1 - (2 * N - lr_nx (2 * N - (t + 1)))))), (0, .ref (A 0))]) hx hb d_X_leaveOutPairs_38 hl (k := 1) rfl (gx_dec (by omega) (by omega)) (by decide) rfl (fun ls hl => ?_)
              refine lv_goto (tgt := 7) hx hb d_X_leaveOutPairs_41 (by decide) ?_
              exact ih_7 (t + 1) (by omega) _ _ _ _ _ _ x0 x1 s0 sko skc sbo sbc lo lc to tc xn xr hX ⟨_, hr1, hr2⟩ hfr hP hD hS (lv_sub hl [0, 2] rfl)
            · have c4 : ¬ (2 * N - 1 - (2 * N - lr_nx (2 * N - (t + 1))) < lr_nx (2 * N - (t + 1))) := fun z => c4 ((nI_ltI (a := (2 * N - 1 - (2 * N - lr_nx (2 * N - (t + 1))))) (b := (lr_nx (2 * N - (t + 1)))) (by omega) (by omega)).mpr z)
              exfalso; omega
          | succ dd ih_18 =>
            intro u e_u w H locs ls L3 T3 x0 x1 s0 sko skc sbo sbc lo lc to tc xn xr hX hr2 hfr hP hD hS hl
            refine lv_iload_n hx hb d_X_leaveOutPairs_18 rfl (lv_at hl 0 rfl) ?_
            refine lv_iload_n hx hb d_X_leaveOutPairs_19 rfl (lv_at hl 1 rfl) ?_
            refine gw_ci0 (gc_X_228 (As := [.int (nI (2 * N - (t + 1)))]) (rest := [.int (nI (2 * N - 1 - u))]) hF hT (c_X_placeOfNextName (i := 2 * N - (t + 1)) (by omega)) ⟨(Nat.le_of_ble_eq_true rfl), (Nat.le_of_ble_eq_true rfl)⟩ rfl rfl hK hN hP hD rfl hl.1 rfl (Nat.le_of_ble_eq_true rfl) d_X_leaveOutPairs_20 ⟨(Nat.le_of_ble_eq_true rfl), (Nat.le_of_ble_eq_true rfl)⟩) hD hS hA (fun r5 H locs e_r5 hP hD hS => ?_)
            subst e_r5
            refine lv_icmp_lt (tgt := 38) hx hb d_X_leaveOutPairs_23 (by decide) (fun c6 => ?_) (fun c6 => ?_)
            · have c6 := (nI_ltI (a := (2 * N - 1 - u)) (b := (lr_nx (2 * N - (t + 1)))) (by omega) (by omega)).mp c6
              exfalso; omega
            · have c6 : ¬ (2 * N - 1 - u < lr_nx (2 * N - (t + 1))) := fun z => c6 ((nI_ltI (a := (2 * N - 1 - u)) (b := (lr_nx (2 * N - (t + 1)))) (by omega) (by omega)).mpr z)
              refine lv_aload_n hx hb d_X_leaveOutPairs_26 rfl (lv_at hl 2 rfl) ?_
              refine lv_iload_n hx hb d_X_leaveOutPairs_27 rfl (lv_at hl 1 rfl) ?_
              refine lv_iload_n hx hb d_X_leaveOutPairs_28 rfl (lv_at hl 0 rfl) ?_
              refine gw_cv (gc_X_231 (As := [.int (nI (2 * N - (t + 1))), .int (nI (2 * N - 1 - u))]) (rest := []) hF hT (c_X_leaveOutUnlessNeeded ⟨x0, x1, hsf, hX, ⟨s0, ⟨sko, skc⟩, ⟨sbo, sbc⟩⟩, ⟨lo, lc⟩, ⟨to, tc⟩, xn, xr⟩ hN1 hN5 (i := 2 * N - (t + 1)) (k := 2 * N - 1 - u) (by omega) (by omega)) ⟨(Nat.le_of_ble_eq_true rfl), (Nat.le_of_ble_eq_true rfl)⟩ rfl rfl hK hN hP hD x0 rfl hl.1 rfl (Nat.le_of_ble_eq_true rfl) d_X_leaveOutPairs_29 ⟨(Nat.le_of_ble_eq_true rfl), (Nat.le_of_ble_eq_true rfl)⟩) hD hS hA (fun w H locs hw hP hD hS => ?_)
              obtain ⟨⟨L7, T7, o7, x0, x1, hsf, hX, ⟨s0, ⟨sko, skc⟩, ⟨sbo, sbc⟩⟩, ⟨lo, lc⟩, ⟨to, tc⟩, xn, xr⟩, hf⟩ := hw
              have hfr := hfr.in hf (by omega) (by omega)
              refine lv_iinc (v := nI (2 * N - 1 - (u + 1))) (lv' := [(2, .int (nI (2 * N - 1 - (u + 1)))), (1, .int (nI (2 * N - (t + 1)))), (0, .ref (A 0))]) hx hb d_X_leaveOutPairs_32 hl (k := 0) rfl (gx_dec1 (by omega)) (by decide) rfl (fun ls hl => ?_)
              refine lv_goto (tgt := 18) hx hb d_X_leaveOutPairs_35 (by decide) ?_
              exact ih_18 (u + 1) (by omega) _ _ _ _ _ _ x0 x1 s0 sko skc sbo sbc lo lc to tc xn xr hX ⟨_, hr2, _, o7⟩ hfr hP hD hS (lv_sub hl [0, 1, 2] rfl)
        exact lp_18 (2 * N - lr_nx (2 * N - (t + 1))) 0 (by omega) _ _ _ _ _ _ x0 x1 s0 sko skc sbo sbc lo lc to tc xn xr hX rfl hfr hP hD hS (lv_sub hl [0, 1, 2] rfl)
  exact lp_7 (2 * N) 0 (by omega) _ _ _ _ _ _ x0 x1 s0 sko skc sbo sbc lo lc to tc xn xr hX rfl hfr hP hD hS (lv_sub hl [0, 1] rfl)

set_option maxHeartbeats 4000000 in
set_option maxRecDepth 100000 in
theorem c_X_tellLeftRows {l : Launch} {D : va_G} {cJ cI cZ cS : ClassId} {ws : va_W} {sz : Nat} {b N : Nat} {A : Nat → Nat} {sf : Nat → Option Nat} {K B : Nat → Nat → Int64} {E : Nat → Int32} {Km Bm : Nat → Int64} {Em : Int32} {Lf Tr nu ne : Nat → Int64} {m1 : Nat} (hx0 : xAt cJ cS ws b A N sf K B E Km Bm Em Lf Tr nu ne (nI m1)) (hN1 : 1 ≤ N) (hN5 : N ≤ 5) (hm1 : m1 = 0) : Met l y_X_tellLeftRows w_X_tellLeftRows ({ frames := 3, cells := 0, slots := 0, locals := 43 } : Room) (gw_Pc D classes (gT cJ cI cZ cS) [.ref (A 0)] ws sz) (va_Qv (fun w => (∃ m2 ne2, (m2, ne2) = lr_t3 Lf (2 * N) (2 * N) (lr_t1 Lf (2 * N) (2 * N) (m1, ne)) ∧ m2 ≤ 2 * (N * N) ∧ xAt cJ cS w b A N sf K B E Km Bm Em Lf Tr nu ne2 (nI m2)) ∧ gF b (b + 53) ws w) (gw_B D classes (gT cJ cI cZ cS) ws sz) (va_A ws sz)) 0 0 (va_A ws sz) := by
  refine gw_head (by decide) (Nat.le_of_ble_eq_true rfl) (fun p e s m below meth c hsz hx hb hr hlocks hml hown hnm hts hK hN hP hD hS hA ls hl => ?_)
  have hown : s.vm.findClass R_X = some m.cls := hown
  have hT : ∀ w ∈ wG, w ∈ Cond.code y_X_tellLeftRows b_X_tellLeftRows 3 none :: wG := gd_t _
  have hF : CallFix p m c b_X_tellLeftRows 3 s ([.ref (A 0)] : List Value).toArray (Cond.code y_X_tellLeftRows b_X_tellLeftRows 3 none :: wG) R_X := ⟨hx, hb, hml, hown, hts⟩
  have hl : lv_has ls 3 [(0, .ref (A 0))] := hl
  obtain ⟨x0, x1, hsf, hX, ⟨s0, ⟨sko, skc⟩, ⟨sbo, sbc⟩⟩, ⟨lo, lc⟩, ⟨to, tc⟩, xn, xr⟩ := hx0
  have hn : 2 * N ≤ 10 := by omega
  have he : 2 * N % 2 = 0 := by omega
  have hNN := lr_nn hN5
  have hsq := lr_nsq N
  have hrem := lr_rem_0 hN5
  have hfr : gF b (b + 53) ws ws := gF.rf
  refine lv_iconst (v := nI 0) hx hb d_X_tellLeftRows_0 (by decide) ?_
  refine lv_istore_n (lv' := [(1, .int (nI 0)), (0, .ref (A 0))]) hx hb d_X_tellLeftRows_1 rfl hl (by decide) rfl (fun ls hl => ?_)
  have lp_2 : ∀ (dd i : Nat), i + dd = (2 * N) → ∀ (w : va_W) (H : Heap) (locs : List Loc) (ls : Array Slot), w[b]? = some (A 0, .inr (2, [.int (nI N), .int (nI (2 * N)), .ref (A 1), .ref (xmd A 0), .ref (A 47), .ref (A 49), .ref (A 51), .ref (A 52), .int (nI ((lr_t1 Lf (2 * N) i (m1, ne)).1))])) → w[b + 1]? = some (A 1, .inl (cS, 8, .inr (.inr (.inr (.inr sf))))) → w[b + 42]? = some (xmd A 0, .inr (1, [.int (nI (2 * N)), .ref (xmd A 1), .ref (xmd A 3), .int Em])) → w[b + 42 + 1]? = some (xmd A 1, .inr (0, [.int (nI (2 * N)), .ref (xmd A 2)])) → w[b + 42 + 1 + 1]? = some (xmd A 2, .inl (cJ, (2 * N) * (2 * N), .inr (.inl Km))) → w[b + 42 + 3]? = some (xmd A 3, .inr (0, [.int (nI (2 * N)), .ref (xmd A 4)])) → w[b + 42 + 3 + 1]? = some (xmd A 4, .inl (cJ, (2 * N) * (2 * N), .inr (.inl Bm))) → w[b + 47]? = some (A 47, .inr (0, [.int (nI (2 * N)), .ref (A 48)])) → w[b + 47 + 1]? = some (A 48, .inl (cJ, (2 * N) * (2 * N), .inr (.inl Lf))) → w[b + 49]? = some (A 49, .inr (0, [.int (nI (2 * N)), .ref (A 50)])) → w[b + 49 + 1]? = some (A 50, .inl (cJ, (2 * N) * (2 * N), .inr (.inl Tr))) → w[b + 51]? = some (A 51, .inl (cJ, N, .inr (.inl nu))) → w[b + 52]? = some (A 52, .inl (cJ, 6 * (N * N), .inr (.inl ((lr_t1 Lf (2 * N) i (m1, ne)).2)))) → xFam cJ w b A (2 * N) K B E → (lr_t1 Lf (2 * N) i (m1, ne)).1 ≤ i → gF b (b + 53) ws w → va_P D classes w H → va_D (va_A ws sz) w → va_S (va_A ws sz) s.heap H locs → lv_has ls 3 [(1, .int (nI i)), (0, .ref (A 0))] → W p l e ({ frames := 3, cells := 0, slots := 0, locals := 43 } : Room) s m ([.ref (A 0)] : List Value).toArray below meth c H locs 0 0 (MQ below (va_Qv (fun w => (∃ m2 ne2, (m2, ne2) = lr_t3 Lf (2 * N) (2 * N) (lr_t1 Lf (2 * N) (2 * N) (m1, ne)) ∧ m2 ≤ 2 * (N * N) ∧ xAt cJ cS w b A N sf K B E Km Bm Em Lf Tr nu ne2 (nI m2)) ∧ gF b (b + 53) ws w) (gw_B D classes (gT cJ cI cZ cS) ws sz) (va_A ws sz)) ([.ref (A 0)] : List Value).toArray s 0 0 (va_A ws sz)) (F0 m 2 ls []) := by
    intro dd
    induction dd with
    | zero =>
      intro i e_i w H locs ls x0 x1 s0 sko skc sbo sbc lo lc to tc xn xr hX hb1 hfr hP hD hS hl
      have e0_i : (2 * N) = i := by omega
      subst e0_i
      refine lv_iload_n hx hb d_X_tellLeftRows_2 rfl (lv_at hl 0 rfl) ?_
      refine lv_aload_n hx hb d_X_tellLeftRows_3 rfl (lv_at hl 1 rfl) ?_
      refine gf_X_22 hF hT hK hP x0 rfl d_X_tellLeftRows_4 ?_
      refine lv_icmp_ge (tgt := 49) hx hb d_X_tellLeftRows_7 (by decide) (fun c1 => ?_) (fun c1 => ?_)
      · have c1 := (nI_leI (a := (2 * N)) (b := (2 * N)) (by omega) (by omega)).mp c1
        refine lv_iconst (v := nI 0) hx hb d_X_tellLeftRows_49 (by decide) ?_
        refine lv_istore_n (lv' := [(1, .int (nI 0)), (0, .ref (A 0))]) hx hb d_X_tellLeftRows_50 rfl hl (by decide) rfl (fun ls hl => ?_)
        have lp_51 : ∀ (dd i : Nat), i + dd = (2 * N) → ∀ (w : va_W) (H : Heap) (locs : List Loc) (ls : Array Slot), w[b]? = some (A 0, .inr (2, [.int (nI N), .int (nI (2 * N)), .ref (A 1), .ref (xmd A 0), .ref (A 47), .ref (A 49), .ref (A 51), .ref (A 52), .int (nI ((lr_t3 Lf (2 * N) i (lr_t1 Lf (2 * N) (2 * N) (m1, ne))).1))])) → w[b + 1]? = some (A 1, .inl (cS, 8, .inr (.inr (.inr (.inr sf))))) → w[b + 42]? = some (xmd A 0, .inr (1, [.int (nI (2 * N)), .ref (xmd A 1), .ref (xmd A 3), .int Em])) → w[b + 42 + 1]? = some (xmd A 1, .inr (0, [.int (nI (2 * N)), .ref (xmd A 2)])) → w[b + 42 + 1 + 1]? = some (xmd A 2, .inl (cJ, (2 * N) * (2 * N), .inr (.inl Km))) → w[b + 42 + 3]? = some (xmd A 3, .inr (0, [.int (nI (2 * N)), .ref (xmd A 4)])) → w[b + 42 + 3 + 1]? = some (xmd A 4, .inl (cJ, (2 * N) * (2 * N), .inr (.inl Bm))) → w[b + 47]? = some (A 47, .inr (0, [.int (nI (2 * N)), .ref (A 48)])) → w[b + 47 + 1]? = some (A 48, .inl (cJ, (2 * N) * (2 * N), .inr (.inl Lf))) → w[b + 49]? = some (A 49, .inr (0, [.int (nI (2 * N)), .ref (A 50)])) → w[b + 49 + 1]? = some (A 50, .inl (cJ, (2 * N) * (2 * N), .inr (.inl Tr))) → w[b + 51]? = some (A 51, .inl (cJ, N, .inr (.inl nu))) → w[b + 52]? = some (A 52, .inl (cJ, 6 * (N * N), .inr (.inl ((lr_t3 Lf (2 * N) i (lr_t1 Lf (2 * N) (2 * N) (m1, ne))).2)))) → xFam cJ w b A (2 * N) K B E → (lr_t3 Lf (2 * N) i (lr_t1 Lf (2 * N) (2 * N) (m1, ne))).1 + lr_rem N i ≤ 2 * (N * N) → gF b (b + 53) ws w → va_P D classes w H → va_D (va_A ws sz) w → va_S (va_A ws sz) s.heap H locs → lv_has ls 3 [(1, .int (nI i)), (0, .ref (A 0))] → W p l e ({ frames := 3, cells := 0, slots := 0, locals := 43 } : Room) s m ([.ref (A 0)] : List Value).toArray below meth c H locs 0 0 (MQ below (va_Qv (fun w => (∃ m2 ne2, (m2, ne2) = lr_t3 Lf (2 * N) (2 * N) (lr_t1 Lf (2 * N) (2 * N) (m1, ne)) ∧ m2 ≤ 2 * (N * N) ∧ xAt cJ cS w b A N sf K B E Km Bm Em Lf Tr nu ne2 (nI m2)) ∧ gF b (b + 53) ws w) (gw_B D classes (gT cJ cI cZ cS) ws sz) (va_A ws sz)) ([.ref (A 0)] : List Value).toArray s 0 0 (va_A ws sz)) (F0 m 51 ls []) := by
          intro dd
          induction dd with
          | zero =>
            intro i e_i w H locs ls x0 x1 s0 sko skc sbo sbc lo lc to tc xn xr hX hb3 hfr hP hD hS hl
            have e0_i : (2 * N) = i := by omega
            subst e0_i
            refine lv_iload_n hx hb d_X_tellLeftRows_51 rfl (lv_at hl 0 rfl) ?_
            refine lv_aload_n hx hb d_X_tellLeftRows_52 rfl (lv_at hl 1 rfl) ?_
            refine gf_X_22 hF hT hK hP x0 rfl d_X_tellLeftRows_53 ?_
            refine lv_icmp_ge (tgt := 121) hx hb d_X_tellLeftRows_56 (by decide) (fun c2 => ?_) (fun c2 => ?_)
            · have c2 := (nI_leI (a := (2 * N)) (b := (2 * N)) (by omega) (by omega)).mp c2
              exact gw_vret hx hb hr hlocks hK hP hD hS (Nat.le_of_ble_eq_true rfl) (Nat.le_of_ble_eq_true rfl) d_X_tellLeftRows_121 ⟨⟨(lr_t3 Lf (2 * N) (2 * N) (lr_t1 Lf (2 * N) (2 * N) (m1, ne))).1, (lr_t3 Lf (2 * N) (2 * N) (lr_t1 Lf (2 * N) (2 * N) (m1, ne))).2, rfl, by omega, ⟨x0, x1, hsf, hX, ⟨s0, ⟨sko, skc⟩, ⟨sbo, sbc⟩⟩, ⟨lo, lc⟩, ⟨to, tc⟩, xn, xr⟩⟩, hfr⟩
            · have c2 : ¬ (2 * N ≤ (2 * N)) := fun z => c2 ((nI_leI (a := (2 * N)) (b := (2 * N)) (by omega) (by omega)).mpr z)
              exfalso; omega
          | succ dd ih_51 =>
            intro i e_i w H locs ls x0 x1 s0 sko skc sbo sbc lo lc to tc xn xr hX hb3 hfr hP hD hS hl
            have hnx := lr_nx_le (i := i) (N := N) (by omega)
            have hrs := lr_rem_s (N := N) (i := i) (by omega)
            refine lv_iload_n hx hb d_X_tellLeftRows_51 rfl (lv_at hl 0 rfl) ?_
            refine lv_aload_n hx hb d_X_tellLeftRows_52 rfl (lv_at hl 1 rfl) ?_
            refine gf_X_22 hF hT hK hP x0 rfl d_X_tellLeftRows_53 ?_
            refine lv_icmp_ge (tgt := 121) hx hb d_X_tellLeftRows_56 (by decide) (fun c3 => ?_) (fun c3 => ?_)
            · have c3 := (nI_leI (a := (2 * N)) (b := i) (by omega) (by omega)).mp c3
              exfalso; omega
            · have c3 : ¬ (2 * N ≤ i) := fun z => c3 ((nI_leI (a := (2 * N)) (b := i) (by omega) (by omega)).mpr z)
              refine lv_iload_n hx hb d_X_tellLeftRows_59 rfl (lv_at hl 0 rfl) ?_
              refine gw_ci0 (gc_X_228 (As := [.int (nI i)]) (rest := []) hF hT (c_X_placeOfNextName (i := i) (by omega)) ⟨(Nat.le_of_ble_eq_true rfl), (Nat.le_of_ble_eq_true rfl)⟩ rfl rfl hK hN hP hD rfl hl.1 rfl (Nat.le_of_ble_eq_true rfl) d_X_tellLeftRows_60 ⟨(Nat.le_of_ble_eq_true rfl), (Nat.le_of_ble_eq_true rfl)⟩) hD hS hA (fun r4 H locs e_r4 hP hD hS => ?_)
              subst e_r4
              refine lv_istore_n (lv' := [(2, .int (nI (lr_nx i))), (1, .int (nI i)), (0, .ref (A 0))]) hx hb d_X_tellLeftRows_63 rfl hl (by decide) rfl (fun ls hl => ?_)
              have lp_64 : ∀ (dd t : Nat), t + dd = (2 * N - lr_nx i) → ∀ (w : va_W) (H : Heap) (locs : List Loc) (ls : Array Slot), w[b]? = some (A 0, .inr (2, [.int (nI N), .int (nI (2 * N)), .ref (A 1), .ref (xmd A 0), .ref (A 47), .ref (A 49), .ref (A 51), .ref (A 52), .int (nI ((lr_t2 Lf (2 * N) i t (lr_t3 Lf (2 * N) i (lr_t1 Lf (2 * N) (2 * N) (m1, ne)))).1))])) → w[b + 1]? = some (A 1, .inl (cS, 8, .inr (.inr (.inr (.inr sf))))) → w[b + 42]? = some (xmd A 0, .inr (1, [.int (nI (2 * N)), .ref (xmd A 1), .ref (xmd A 3), .int Em])) → w[b + 42 + 1]? = some (xmd A 1, .inr (0, [.int (nI (2 * N)), .ref (xmd A 2)])) → w[b + 42 + 1 + 1]? = some (xmd A 2, .inl (cJ, (2 * N) * (2 * N), .inr (.inl Km))) → w[b + 42 + 3]? = some (xmd A 3, .inr (0, [.int (nI (2 * N)), .ref (xmd A 4)])) → w[b + 42 + 3 + 1]? = some (xmd A 4, .inl (cJ, (2 * N) * (2 * N), .inr (.inl Bm))) → w[b + 47]? = some (A 47, .inr (0, [.int (nI (2 * N)), .ref (A 48)])) → w[b + 47 + 1]? = some (A 48, .inl (cJ, (2 * N) * (2 * N), .inr (.inl Lf))) → w[b + 49]? = some (A 49, .inr (0, [.int (nI (2 * N)), .ref (A 50)])) → w[b + 49 + 1]? = some (A 50, .inl (cJ, (2 * N) * (2 * N), .inr (.inl Tr))) → w[b + 51]? = some (A 51, .inl (cJ, N, .inr (.inl nu))) → w[b + 52]? = some (A 52, .inl (cJ, 6 * (N * N), .inr (.inl ((lr_t2 Lf (2 * N) i t (lr_t3 Lf (2 * N) i (lr_t1 Lf (2 * N) (2 * N) (m1, ne)))).2)))) → xFam cJ w b A (2 * N) K B E → (lr_t2 Lf (2 * N) i t (lr_t3 Lf (2 * N) i (lr_t1 Lf (2 * N) (2 * N) (m1, ne)))).1 + (2 * N - lr_nx i - t) + lr_rem N (i + 1) ≤ 2 * (N * N) → gF b (b + 53) ws w → va_P D classes w H → va_D (va_A ws sz) w → va_S (va_A ws sz) s.heap H locs → lv_has ls 3 [(2, .int (nI (lr_nx i + t))), (1, .int (nI i)), (0, .ref (A 0))] → W p l e ({ frames := 3, cells := 0, slots := 0, locals := 43 } : Room) s m ([.ref (A 0)] : List Value).toArray below meth c H locs 0 0 (MQ below (va_Qv (fun w => (∃ m2 ne2, (m2, ne2) = lr_t3 Lf (2 * N) (2 * N) (lr_t1 Lf (2 * N) (2 * N) (m1, ne)) ∧ m2 ≤ 2 * (N * N) ∧ xAt cJ cS w b A N sf K B E Km Bm Em Lf Tr nu ne2 (nI m2)) ∧ gF b (b + 53) ws w) (gw_B D classes (gT cJ cI cZ cS) ws sz) (va_A ws sz)) ([.ref (A 0)] : List Value).toArray s 0 0 (va_A ws sz)) (F0 m 64 ls []) := by
                intro dd
                induction dd with
                | zero =>
                  intro t e_t w H locs ls x0 x1 s0 sko skc sbo sbc lo lc to tc xn xr hX hb2 hfr hP hD hS hl
                  have e0_t : (2 * N - lr_nx i) = t := by omega
                  subst e0_t
                  refine lv_iload_n hx hb d_X_tellLeftRows_64 rfl (lv_at hl 0 rfl) ?_
                  refine lv_aload_n hx hb d_X_tellLeftRows_65 rfl (lv_at hl 2 rfl) ?_
                  refine gf_X_22 hF hT hK hP x0 rfl d_X_tellLeftRows_66 ?_
                  refine lv_icmp_ge (tgt := 115) hx hb d_X_tellLeftRows_69 (by decide) (fun c5 => ?_) (fun c5 => ?_)
                  · have c5 := (nI_leI (a := (2 * N)) (b := (lr_nx i + (2 * N - lr_nx i))) (by omega) (by omega)).mp c5
                    refine lv_iinc (v := nI (i + 1)) (lv' := [(1, .int (nI (i + 1))), (2, .int (nI (lr_nx i + (2 * N - lr_nx i)))), (0, .ref (A 0))]) hx hb d_X_tellLeftRows_115 hl (k := 1) rfl (gx_inc _) (by decide) rfl (fun ls hl => ?_)
                    refine lv_goto (tgt := 51) hx hb d_X_tellLeftRows_118 (by decide) ?_
                    exact ih_51 (i + 1) (by omega) _ _ _ _ x0 x1 s0 sko skc sbo sbc lo lc to tc xn xr hX (by have h9 : (lr_t3 Lf (2 * N) (i + 1) (lr_t1 Lf (2 * N) (2 * N) (m1, ne))).1 = (lr_t2 Lf (2 * N) i (2 * N - lr_nx i) (lr_t3 Lf (2 * N) i (lr_t1 Lf (2 * N) (2 * N) (m1, ne)))).1 := rfl; omega) hfr hP hD hS (lv_sub hl [0, 2] rfl)
                  · have c5 : ¬ (2 * N ≤ lr_nx i + (2 * N - lr_nx i)) := fun z => c5 ((nI_leI (a := (2 * N)) (b := (lr_nx i + (2 * N - lr_nx i))) (by omega) (by omega)).mpr z)
                    exfalso; omega
                | succ dd ih_64 =>
                  intro t e_t w H locs ls x0 x1 s0 sko skc sbo sbc lo lc to tc xn xr hX hb2 hfr hP hD hS hl
                  refine lv_iload_n hx hb d_X_tellLeftRows_64 rfl (lv_at hl 0 rfl) ?_
                  refine lv_aload_n hx hb d_X_tellLeftRows_65 rfl (lv_at hl 2 rfl) ?_
                  refine gf_X_22 hF hT hK hP x0 rfl d_X_tellLeftRows_66 ?_
                  refine lv_icmp_ge (tgt := 115) hx hb d_X_tellLeftRows_69 (by decide) (fun c6 => ?_) (fun c6 => ?_)
                  · have c6 := (nI_leI (a := (2 * N)) (b := (lr_nx i + t)) (by omega) (by omega)).mp c6
                    exfalso; omega
                  · have c6 : ¬ (2 * N ≤ lr_nx i + t) := fun z => c6 ((nI_leI (a := (2 * N)) (b := (lr_nx i + t)) (by omega) (by omega)).mpr z)
                    refine lv_aload_n hx hb d_X_tellLeftRows_72 rfl (lv_at hl 2 rfl) ?_
                    refine gf_X_41 hF hT hK hP x0 rfl d_X_tellLeftRows_73 ?_
                    refine lv_iload_n hx hb d_X_tellLeftRows_76 rfl (lv_at hl 1 rfl) ?_
                    refine lv_iload_n hx hb d_X_tellLeftRows_77 rfl (lv_at hl 0 rfl) ?_
                    refine gw_cl0 (gc_X_138 (As := [.int (nI i), .int (nI (lr_nx i + t))]) (rest := []) hF hT (c_T_at ⟨lo, lc⟩ hn (by omega) (by omega)) ⟨(Nat.le_of_ble_eq_true rfl), (Nat.le_of_ble_eq_true rfl)⟩ rfl rfl hK hN hP hD lo rfl hl.1 rfl (Nat.le_of_ble_eq_true rfl) d_X_tellLeftRows_78 ⟨(Nat.le_of_ble_eq_true rfl), (Nat.le_of_ble_eq_true rfl)⟩) hD hS hA (fun r7 H locs e_r7 hP hD hS => ?_)
                    subst e_r7
                    refine lv_ldc2 (v := lr_E) hx hb hown (hts _ (hT _ wm_2_61)) d_X_tellLeftRows_81 ?_
                    refine gx_leq (tgt := 109) hx hb d_X_tellLeftRows_84 d_X_tellLeftRows_85 (by decide) (fun c8 => ?_) (fun c8 => ?_)
                    · refine lv_iinc (v := nI (lr_nx i + t + 1)) (lv' := [(2, .int (nI (lr_nx i + t + 1))), (1, .int (nI i)), (0, .ref (A 0))]) hx hb d_X_tellLeftRows_109 hl (k := 0) rfl (gx_inc _) (by decide) rfl (fun ls hl => ?_)
                      refine lv_goto (tgt := 64) hx hb d_X_tellLeftRows_112 (by decide) ?_
                      have eB9 : (lr_t2 Lf (2 * N) i (t + 1) (lr_t3 Lf (2 * N) i (lr_t1 Lf (2 * N) (2 * N) (m1, ne)))).1 = (lr_t2 Lf (2 * N) i t (lr_t3 Lf (2 * N) i (lr_t1 Lf (2 * N) (2 * N) (m1, ne)))).1 := by show (ite _ _ _ : lr_P).1 = _; rw [if_pos c8]; rfl
                      rw [← eB9] at x0
                      have eB10 : (lr_t2 Lf (2 * N) i (t + 1) (lr_t3 Lf (2 * N) i (lr_t1 Lf (2 * N) (2 * N) (m1, ne)))).2 = (lr_t2 Lf (2 * N) i t (lr_t3 Lf (2 * N) i (lr_t1 Lf (2 * N) (2 * N) (m1, ne)))).2 := by show (ite _ _ _ : lr_P).2 = _; rw [if_pos c8]; rfl
                      rw [← eB10] at xr
                      exact ih_64 (t + 1) (by omega) _ _ _ _ x0 x1 s0 sko skc sbo sbc lo lc to tc xn xr hX (by have h9 : (lr_t2 Lf (2 * N) i (t + 1) (lr_t3 Lf (2 * N) i (lr_t1 Lf (2 * N) (2 * N) (m1, ne)))).1 ≤ (lr_t2 Lf (2 * N) i t (lr_t3 Lf (2 * N) i (lr_t1 Lf (2 * N) (2 * N) (m1, ne)))).1 + 1 := lr_tl2_le; omega) hfr hP hD hS (lv_sub hl [0, 1, 2] rfl)
                    · refine lv_aload_n hx hb d_X_tellLeftRows_88 rfl (lv_at hl 2 rfl) ?_
                      refine lv_iload_n hx hb d_X_tellLeftRows_89 rfl (lv_at hl 1 rfl) ?_
                      refine gw_ci0 (gc_X_238 (As := [.int (nI i)]) (rest := [.ref (A 0)]) hF hT (c_X_termAt (q := i) (by omega)) ⟨(Nat.le_of_ble_eq_true rfl), (Nat.le_of_ble_eq_true rfl)⟩ rfl rfl hK hN hP hD rfl hl.1 rfl (Nat.le_of_ble_eq_true rfl) d_X_tellLeftRows_90 ⟨(Nat.le_of_ble_eq_true rfl), (Nat.le_of_ble_eq_true rfl)⟩) hD hS hA (fun r11 H locs e_r11 hP hD hS => ?_)
                      subst e_r11
                      refine lv_iload_n hx hb d_X_tellLeftRows_93 rfl (lv_at hl 0 rfl) ?_
                      refine gw_ci0 (gc_X_238 (As := [.int (nI (lr_nx i + t))]) (rest := [.int (lr_term i), .ref (A 0)]) hF hT (c_X_termAt (q := lr_nx i + t) (by omega)) ⟨(Nat.le_of_ble_eq_true rfl), (Nat.le_of_ble_eq_true rfl)⟩ rfl rfl hK hN hP hD rfl hl.1 rfl (Nat.le_of_ble_eq_true rfl) d_X_tellLeftRows_94 ⟨(Nat.le_of_ble_eq_true rfl), (Nat.le_of_ble_eq_true rfl)⟩) hD hS hA (fun r12 H locs e_r12 hP hD hS => ?_)
                      subst e_r12
                      refine lv_aload_n hx hb d_X_tellLeftRows_97 rfl (lv_at hl 2 rfl) ?_
                      refine gf_X_41 hF hT hK hP x0 rfl d_X_tellLeftRows_98 ?_
                      refine lv_iload_n hx hb d_X_tellLeftRows_101 rfl (lv_at hl 1 rfl) ?_
                      refine lv_iload_n hx hb d_X_tellLeftRows_102 rfl (lv_at hl 0 rfl) ?_
                      refine gw_cl0 (gc_X_138 (As := [.int (nI i), .int (nI (lr_nx i + t))]) (rest := [.int (lr_term (lr_nx i + t)), .int (lr_term i), .ref (A 0)]) hF hT (c_T_at ⟨lo, lc⟩ hn (by omega) (by omega)) ⟨(Nat.le_of_ble_eq_true rfl), (Nat.le_of_ble_eq_true rfl)⟩ rfl rfl hK hN hP hD lo rfl hl.1 rfl (Nat.le_of_ble_eq_true rfl) d_X_tellLeftRows_103 ⟨(Nat.le_of_ble_eq_true rfl), (Nat.le_of_ble_eq_true rfl)⟩) hD hS hA (fun r13 H locs e_r13 hP hD hS => ?_)
                      subst e_r13
                      refine gw_cv (gc_X_147 (As := [.int (lr_term i), .int (lr_term (lr_nx i + t)), .long (Lf (i * (2 * N) + (lr_nx i + t)))]) (rest := []) hF hT (c_X_tellRow ⟨x0, x1, hsf, hX, ⟨s0, ⟨sko, skc⟩, ⟨sbo, sbc⟩⟩, ⟨lo, lc⟩, ⟨to, tc⟩, xn, xr⟩ hN1 hN5 (m1 := (lr_t2 Lf (2 * N) i t (lr_t3 Lf (2 * N) i (lr_t1 Lf (2 * N) (2 * N) (m1, ne)))).1) (by omega)) ⟨(Nat.le_of_ble_eq_true rfl), (Nat.le_of_ble_eq_true rfl)⟩ rfl rfl hK hN hP hD x0 rfl hl.1 rfl (Nat.le_of_ble_eq_true rfl) d_X_tellLeftRows_106 ⟨(Nat.le_of_ble_eq_true rfl), (Nat.le_of_ble_eq_true rfl)⟩) hD hS hA (fun w H locs hw hP hD hS => ?_)
                      obtain ⟨⟨x0, x1, hsf, hX, ⟨s0, ⟨sko, skc⟩, ⟨sbo, sbc⟩⟩, ⟨lo, lc⟩, ⟨to, tc⟩, xn, xr⟩, hf⟩ := hw
                      have hfr := hfr.in hf (by omega) (by omega)
                      refine lv_iinc (v := nI (lr_nx i + t + 1)) (lv' := [(2, .int (nI (lr_nx i + t + 1))), (1, .int (nI i)), (0, .ref (A 0))]) hx hb d_X_tellLeftRows_109 hl (k := 0) rfl (gx_inc _) (by decide) rfl (fun ls hl => ?_)
                      refine lv_goto (tgt := 64) hx hb d_X_tellLeftRows_112 (by decide) ?_
                      have eB14 : (lr_t2 Lf (2 * N) i (t + 1) (lr_t3 Lf (2 * N) i (lr_t1 Lf (2 * N) (2 * N) (m1, ne)))).1 = ((lr_t2 Lf (2 * N) i t (lr_t3 Lf (2 * N) i (lr_t1 Lf (2 * N) (2 * N) (m1, ne)))).1) + 1 := by show (ite _ _ _ : lr_P).1 = _; rw [if_neg c8]; rfl
                      rw [← eB14] at x0
                      have eB15 : (lr_t2 Lf (2 * N) i (t + 1) (lr_t3 Lf (2 * N) i (lr_t1 Lf (2 * N) (2 * N) (m1, ne)))).2 = lr_tell ((lr_t2 Lf (2 * N) i t (lr_t3 Lf (2 * N) i (lr_t1 Lf (2 * N) (2 * N) (m1, ne)))).2) ((lr_t2 Lf (2 * N) i t (lr_t3 Lf (2 * N) i (lr_t1 Lf (2 * N) (2 * N) (m1, ne)))).1) (lr_term i) (lr_term (lr_nx i + t)) (Lf (i * (2 * N) + (lr_nx i + t))) := by show (ite _ _ _ : lr_P).2 = _; rw [if_neg c8]; rfl
                      rw [← eB15] at xr
                      exact ih_64 (t + 1) (by omega) _ _ _ _ x0 x1 s0 sko skc sbo sbc lo lc to tc xn xr hX (by have h9 : (lr_t2 Lf (2 * N) i (t + 1) (lr_t3 Lf (2 * N) i (lr_t1 Lf (2 * N) (2 * N) (m1, ne)))).1 ≤ (lr_t2 Lf (2 * N) i t (lr_t3 Lf (2 * N) i (lr_t1 Lf (2 * N) (2 * N) (m1, ne)))).1 + 1 := lr_tl2_le; omega) hfr hP hD hS (lv_sub hl [0, 1, 2] rfl)
              exact lp_64 (2 * N - lr_nx i) 0 (by omega) _ _ _ _ x0 x1 s0 sko skc sbo sbc lo lc to tc xn xr hX (by have h9 : (lr_t2 Lf (2 * N) i 0 (lr_t3 Lf (2 * N) i (lr_t1 Lf (2 * N) (2 * N) (m1, ne)))).1 = (lr_t3 Lf (2 * N) i (lr_t1 Lf (2 * N) (2 * N) (m1, ne))).1 := rfl; omega) hfr hP hD hS (lv_sub hl [0, 1, 2] rfl)
        exact lp_51 (2 * N) 0 (by omega) _ _ _ _ x0 x1 s0 sko skc sbo sbc lo lc to tc xn xr hX (by have h9 : (lr_t3 Lf (2 * N) 0 (lr_t1 Lf (2 * N) (2 * N) (m1, ne))).1 = (lr_t1 Lf (2 * N) (2 * N) (m1, ne)).1 := rfl; omega) hfr hP hD hS (lv_sub hl [0, 1] rfl)
      · have c1 : ¬ (2 * N ≤ (2 * N)) := fun z => c1 ((nI_leI (a := (2 * N)) (b := (2 * N)) (by omega) (by omega)).mpr z)
        exfalso; omega
    | succ dd ih_2 =>
      intro i e_i w H locs ls x0 x1 s0 sko skc sbo sbc lo lc to tc xn xr hX hb1 hfr hP hD hS hl
      refine lv_iload_n hx hb d_X_tellLeftRows_2 rfl (lv_at hl 0 rfl) ?_
      refine lv_aload_n hx hb d_X_tellLeftRows_3 rfl (lv_at hl 1 rfl) ?_
      refine gf_X_22 hF hT hK hP x0 rfl d_X_tellLeftRows_4 ?_
      refine lv_icmp_ge (tgt := 49) hx hb d_X_tellLeftRows_7 (by decide) (fun c16 => ?_) (fun c16 => ?_)
      · have c16 := (nI_leI (a := (2 * N)) (b := i) (by omega) (by omega)).mp c16
        exfalso; omega
      · have c16 : ¬ (2 * N ≤ i) := fun z => c16 ((nI_leI (a := (2 * N)) (b := i) (by omega) (by omega)).mpr z)
        refine lv_aload_n hx hb d_X_tellLeftRows_10 rfl (lv_at hl 1 rfl) ?_
        refine gf_X_41 hF hT hK hP x0 rfl d_X_tellLeftRows_11 ?_
        refine lv_iload_n hx hb d_X_tellLeftRows_14 rfl (lv_at hl 0 rfl) ?_
        refine lv_iload_n hx hb d_X_tellLeftRows_15 rfl (lv_at hl 0 rfl) ?_
        refine gw_cl0 (gc_X_138 (As := [.int (nI i), .int (nI i)]) (rest := []) hF hT (c_T_at ⟨lo, lc⟩ hn (by omega) (by omega)) ⟨(Nat.le_of_ble_eq_true rfl), (Nat.le_of_ble_eq_true rfl)⟩ rfl rfl hK hN hP hD lo rfl hl.1 rfl (Nat.le_of_ble_eq_true rfl) d_X_tellLeftRows_16 ⟨(Nat.le_of_ble_eq_true rfl), (Nat.le_of_ble_eq_true rfl)⟩) hD hS hA (fun r17 H locs e_r17 hP hD hS => ?_)
        subst e_r17
        refine lv_ldc2 (v := lr_E) hx hb hown (hts _ (hT _ wm_2_61)) d_X_tellLeftRows_19 ?_
        refine gx_leq (tgt := 43) hx hb d_X_tellLeftRows_22 d_X_tellLeftRows_23 (by decide) (fun c18 => ?_) (fun c18 => ?_)
        · refine lv_iinc (v := nI (i + 1)) (lv' := [(1, .int (nI (i + 1))), (0, .ref (A 0))]) hx hb d_X_tellLeftRows_43 hl (k := 0) rfl (gx_inc _) (by decide) rfl (fun ls hl => ?_)
          refine lv_goto (tgt := 2) hx hb d_X_tellLeftRows_46 (by decide) ?_
          have eB19 : (lr_t1 Lf (2 * N) (i + 1) (m1, ne)).1 = (lr_t1 Lf (2 * N) i (m1, ne)).1 := by show (ite _ _ _ : lr_P).1 = _; rw [if_pos c18]; rfl
          rw [← eB19] at x0
          have eB20 : (lr_t1 Lf (2 * N) (i + 1) (m1, ne)).2 = (lr_t1 Lf (2 * N) i (m1, ne)).2 := by show (ite _ _ _ : lr_P).2 = _; rw [if_pos c18]; rfl
          rw [← eB20] at xr
          exact ih_2 (i + 1) (by omega) _ _ _ _ x0 x1 s0 sko skc sbo sbc lo lc to tc xn xr hX (by have h9 : (lr_t1 Lf (2 * N) (i + 1) (m1, ne)).1 ≤ (lr_t1 Lf (2 * N) i (m1, ne)).1 + 1 := lr_tl1_le; omega) hfr hP hD hS (lv_sub hl [0, 1] rfl)
        · refine lv_aload_n hx hb d_X_tellLeftRows_26 rfl (lv_at hl 1 rfl) ?_
          refine lv_iload_n hx hb d_X_tellLeftRows_27 rfl (lv_at hl 0 rfl) ?_
          refine gw_ci0 (gc_X_238 (As := [.int (nI i)]) (rest := [.ref (A 0)]) hF hT (c_X_termAt (q := i) (by omega)) ⟨(Nat.le_of_ble_eq_true rfl), (Nat.le_of_ble_eq_true rfl)⟩ rfl rfl hK hN hP hD rfl hl.1 rfl (Nat.le_of_ble_eq_true rfl) d_X_tellLeftRows_28 ⟨(Nat.le_of_ble_eq_true rfl), (Nat.le_of_ble_eq_true rfl)⟩) hD hS hA (fun r21 H locs e_r21 hP hD hS => ?_)
          subst e_r21
          refine lv_iconst (v := nI 0) hx hb d_X_tellLeftRows_31 (by decide) ?_
          refine lv_aload_n hx hb d_X_tellLeftRows_32 rfl (lv_at hl 1 rfl) ?_
          refine gf_X_41 hF hT hK hP x0 rfl d_X_tellLeftRows_33 ?_
          refine lv_iload_n hx hb d_X_tellLeftRows_36 rfl (lv_at hl 0 rfl) ?_
          refine gw_cl0 (gc_X_219 (As := [.int (nI i)]) (rest := [.int (nI 0), .int (lr_term i), .ref (A 0)]) hF hT (c_T_half ⟨lo, lc⟩ hn (by omega)) ⟨(Nat.le_of_ble_eq_true rfl), (Nat.le_of_ble_eq_true rfl)⟩ rfl rfl hK hN hP hD lo rfl hl.1 rfl (Nat.le_of_ble_eq_true rfl) d_X_tellLeftRows_37 ⟨(Nat.le_of_ble_eq_true rfl), (Nat.le_of_ble_eq_true rfl)⟩) hD hS hA (fun r22 H locs e_r22 hP hD hS => ?_)
          subst e_r22
          refine gw_cv (gc_X_147 (As := [.int (lr_term i), .int (nI 0), .long (lr_half Lf (2 * N) i)]) (rest := []) hF hT (c_X_tellRow ⟨x0, x1, hsf, hX, ⟨s0, ⟨sko, skc⟩, ⟨sbo, sbc⟩⟩, ⟨lo, lc⟩, ⟨to, tc⟩, xn, xr⟩ hN1 hN5 (m1 := (lr_t1 Lf (2 * N) i (m1, ne)).1) (by omega)) ⟨(Nat.le_of_ble_eq_true rfl), (Nat.le_of_ble_eq_true rfl)⟩ rfl rfl hK hN hP hD x0 rfl hl.1 rfl (Nat.le_of_ble_eq_true rfl) d_X_tellLeftRows_40 ⟨(Nat.le_of_ble_eq_true rfl), (Nat.le_of_ble_eq_true rfl)⟩) hD hS hA (fun w H locs hw hP hD hS => ?_)
          obtain ⟨⟨x0, x1, hsf, hX, ⟨s0, ⟨sko, skc⟩, ⟨sbo, sbc⟩⟩, ⟨lo, lc⟩, ⟨to, tc⟩, xn, xr⟩, hf⟩ := hw
          have hfr := hfr.in hf (by omega) (by omega)
          refine lv_iinc (v := nI (i + 1)) (lv' := [(1, .int (nI (i + 1))), (0, .ref (A 0))]) hx hb d_X_tellLeftRows_43 hl (k := 0) rfl (gx_inc _) (by decide) rfl (fun ls hl => ?_)
          refine lv_goto (tgt := 2) hx hb d_X_tellLeftRows_46 (by decide) ?_
          have eB23 : (lr_t1 Lf (2 * N) (i + 1) (m1, ne)).1 = ((lr_t1 Lf (2 * N) i (m1, ne)).1) + 1 := by show (ite _ _ _ : lr_P).1 = _; rw [if_neg c18]; rfl
          rw [← eB23] at x0
          have eB24 : (lr_t1 Lf (2 * N) (i + 1) (m1, ne)).2 = lr_tell ((lr_t1 Lf (2 * N) i (m1, ne)).2) ((lr_t1 Lf (2 * N) i (m1, ne)).1) (lr_term i) (nI 0) (lr_half Lf (2 * N) i) := by show (ite _ _ _ : lr_P).2 = _; rw [if_neg c18]; rfl
          rw [← eB24] at xr
          exact ih_2 (i + 1) (by omega) _ _ _ _ x0 x1 s0 sko skc sbo sbc lo lc to tc xn xr hX (by have h9 : (lr_t1 Lf (2 * N) (i + 1) (m1, ne)).1 ≤ (lr_t1 Lf (2 * N) i (m1, ne)).1 + 1 := lr_tl1_le; omega) hfr hP hD hS (lv_sub hl [0, 1] rfl)
  exact lp_2 (2 * N) 0 (by omega) _ _ _ _ x0 x1 s0 sko skc sbo sbc lo lc to tc xn xr hX (by show m1 ≤ 0; omega) hfr hP hD hS (lv_sub hl [0, 1] rfl)

set_option maxHeartbeats 4000000 in
set_option maxRecDepth 100000 in
theorem c_X_needed {l : Launch} (hlt : l.stackTraces = false) {D : va_G} {cJ cI cZ cS : ClassId} {ws : va_W} {sz base : Nat} {b N : Nat} {A : Nat → Nat} {sf : Nat → Option Nat} {K B : Nat → Nat → Int64} {E : Nat → Int32} {Km Bm : Nat → Int64} {Em : Int32} {Lf Tr nu ne : Nat → Int64} {m1 : Nat} (hx0 : xAt cJ cS ws b A N sf K B E Km Bm Em Lf Tr nu ne (nI m1)) (hN1 : 1 ≤ N) (hN5 : N ≤ 5) {x : Int32} : vx_Met l y_X_needed w_X_needed ({ frames := 7, cells := 1, slots := 6, locals := 137 } : Room) (gx_Pc D classes (gT cJ cI cZ cS) [.ref (A 0), .int x] ws sz base) (va_Qi (fun r w => okS x ∧ ∃ k, k < 8 ∧ x = nI k ∧ ∃ m2 ne2 L2 T2, lr_ndO (B k) (E k) (2 * N) Lf ne m2 ne2 ∧ m2 ≤ 2 * (N * N) ∧ r = nI m2 ∧ xAt cJ cS w b A N sf K B E Km Bm Em L2 T2 nu ne2 (nI m2) ∧ gF b (b + 53) ws w) (gw_B D classes (gT cJ cI cZ cS) ws sz) (va_A ws sz)) (gX D classes (gT cJ cI cZ cS) ws sz (fun Z w => Z = xIOOB ∧ ¬ (okS x) ∧ w = ws)) 1 6 (va_A ws sz) := by
  refine gx_head (by decide) (Nat.le_of_ble_eq_true rfl) (fun p e s m below meth c hsz hx hb hr hlocks hml hown hnm hts hK hN hP hD hS hA hB hE hno ls hl => ?_)
  have hown : s.vm.findClass R_X = some m.cls := hown
  have hT : ∀ w ∈ wG, w ∈ Cond.code y_X_needed b_X_needed 2 (some .int) :: wG := gd_t _
  have hF : CallFix p m c b_X_needed 2 s ([.ref (A 0), .int x] : List Value).toArray (Cond.code y_X_needed b_X_needed 2 (some .int) :: wG) R_X := ⟨hx, hb, hml, hown, hts⟩
  have hl : lv_has ls 2 [(0, .ref (A 0)), (1, .int x)] := hl
  obtain ⟨x0, x1, hsf, hX, ⟨s0, ⟨sko, skc⟩, ⟨sbo, sbc⟩⟩, ⟨lo, lc⟩, ⟨to, tc⟩, xn, xr⟩ := hx0
  have hn : 2 * N ≤ 10 := by omega
  have he : 2 * N % 2 = 0 := by omega
  have hNN := lr_nn hN5
  have hsq := lr_nsq N
  have hfr : gF b (b + 53) ws ws := gF.rf
  refine lv_iload_n hx hb d_X_needed_0 rfl (lv_at hl 1 rfl) ?_
  refine gx_cv0 (gxc_X_58 (As := [.int x]) (rest := []) hF hT (c_X_checkShape hlt) ⟨(Nat.le_of_ble_eq_true rfl), (Nat.le_of_ble_eq_true rfl)⟩ rfl rfl (gx_pre hK hN hP hD hS hB hA hE) rfl hl.1 rfl (Nat.le_of_ble_eq_true rfl) d_X_needed_1 ⟨(Nat.le_of_ble_eq_true rfl), (Nat.le_of_ble_eq_true rfl)⟩) hK hD hS hA hno hlocks (Nat.le_of_ble_eq_true rfl) (Nat.le_of_ble_eq_true rfl) (fun Z u q => by obtain ⟨q1, q2, q3⟩ := q; exact ⟨q1, q2, q3⟩) (fun H locs h1 hP hD hS => ?_)
  obtain ⟨k, hk, rfl⟩ := h1.k
  refine lv_aload_n hx hb d_X_needed_4 rfl (lv_at hl 0 rfl) ?_
  refine lv_iconst (v := nI 0) hx hb d_X_needed_5 (by decide) ?_
  refine gp_X_55 hF hT hK hP hD hS (fs1 := [.int (nI N), .int (nI (2 * N)), .ref (A 1), .ref (xmd A 0), .ref (A 47), .ref (A 49), .ref (A 51), .ref (A 52), .int (nI 0)]) x0 rfl rfl (Nat.le_of_ble_eq_true rfl) rfl d_X_needed_6 (fun w H locs x0 hf hP hD hS => ?_)
  have x1 := hf.at x1 (by omega)
  have s0 := hf.at s0 (by omega)
  have sko := hf.at sko (by omega)
  have skc := hf.at skc (by omega)
  have sbo := hf.at sbo (by omega)
  have sbc := hf.at sbc (by omega)
  have lo := hf.at lo (by omega)
  have lc := hf.at lc (by omega)
  have to := hf.at to (by omega)
  have tc := hf.at tc (by omega)
  have xn := hf.at xn (by omega)
  have xr := hf.at xr (by omega)
  have hX := hX.kept hf (by omega)
  have hfr := hfr.in hf (by omega) (by omega)
  refine lv_aload_n hx hb d_X_needed_9 rfl (lv_at hl 0 rfl) ?_
  refine gf_X_27 hF hT hK hP x0 rfl d_X_needed_10 ?_
  refine lv_iload_n hx hb d_X_needed_13 rfl (lv_at hl 1 rfl) ?_
  refine g_aald (t0 := 3) (k := k) hx hb hK hP x1 rfl (by omega) (by decide) (hsf k (by omega)) d_X_needed_14 ?_
  refine gf_X_123 hF hT hN hK hP (hX k (by omega)).1.1 rfl d_X_needed_15 ?_
  refine lv_if_eq (tgt := 35) hx hb d_X_needed_18 (by decide) (fun c1 => ?_) (fun c1 => ?_)
  · refine lv_aload_n hx hb d_X_needed_35 rfl (lv_at hl 0 rfl) ?_
    refine gf_X_41 hF hT hK hP x0 rfl d_X_needed_36 ?_
    refine lv_aload_n hx hb d_X_needed_39 rfl (lv_at hl 0 rfl) ?_
    refine gf_X_27 hF hT hK hP x0 rfl d_X_needed_40 ?_
    refine lv_iload_n hx hb d_X_needed_43 rfl (lv_at hl 1 rfl) ?_
    refine g_aald (t0 := 3) (k := k) hx hb hK hP x1 rfl (by omega) (by decide) (hsf k (by omega)) d_X_needed_44 ?_
    refine gf_X_127 hF hT hN hK hP (hX k (by omega)).1.1 rfl d_X_needed_45 ?_
    refine gw_cv (gc_X_150 (As := [.ref (xsh A k 3)]) (rest := []) hF hT (c_T_takeFrom ⟨lo, lc⟩ hn (hX k (by omega)).1.2.2) ⟨(Nat.le_of_ble_eq_true rfl), (Nat.le_of_ble_eq_true rfl)⟩ rfl rfl hK hN hP hD lo rfl hl.1 rfl (Nat.le_of_ble_eq_true rfl) d_X_needed_48 ⟨(Nat.le_of_ble_eq_true rfl), (Nat.le_of_ble_eq_true rfl)⟩) hD hS hA (fun w H locs hw hP hD hS => ?_)
    obtain ⟨⟨lo, lc⟩, hf⟩ := hw
    have x0 := hf.at x0 (by omega)
    have x1 := hf.at x1 (by omega)
    have s0 := hf.at s0 (by omega)
    have sko := hf.at sko (by omega)
    have skc := hf.at skc (by omega)
    have sbo := hf.at sbo (by omega)
    have sbc := hf.at sbc (by omega)
    have to := hf.at to (by omega)
    have tc := hf.at tc (by omega)
    have xn := hf.at xn (by omega)
    have xr := hf.at xr (by omega)
    have hX := hX.kept hf (by omega)
    have hfr := hfr.in hf (by omega) (by omega)
    refine lv_aload_n hx hb d_X_needed_51 rfl (lv_at hl 0 rfl) ?_
    refine gw_cv (gc_X_154 (As := []) (rest := []) hF hT (c_X_leaveOutPairs ⟨x0, x1, hsf, hX, ⟨s0, ⟨sko, skc⟩, ⟨sbo, sbc⟩⟩, ⟨lo, lc⟩, ⟨to, tc⟩, xn, xr⟩ hN1 hN5) ⟨(Nat.le_of_ble_eq_true rfl), (Nat.le_of_ble_eq_true rfl)⟩ rfl rfl hK hN hP hD x0 rfl hl.1 rfl (Nat.le_of_ble_eq_true rfl) d_X_needed_52 ⟨(Nat.le_of_ble_eq_true rfl), (Nat.le_of_ble_eq_true rfl)⟩) hD hS hA (fun w H locs hw hP hD hS => ?_)
    obtain ⟨⟨L2, T2, o2, x0, x1, hsf, hX, ⟨s0, ⟨sko, skc⟩, ⟨sbo, sbc⟩⟩, ⟨lo, lc⟩, ⟨to, tc⟩, xn, xr⟩, hf⟩ := hw
    have hfr := hfr.in hf (by omega) (by omega)
    refine lv_aload_n hx hb d_X_needed_55 rfl (lv_at hl 0 rfl) ?_
    refine gw_cv (gc_X_157 (As := []) (rest := []) hF hT (c_X_leaveOutSingles ⟨x0, x1, hsf, hX, ⟨s0, ⟨sko, skc⟩, ⟨sbo, sbc⟩⟩, ⟨lo, lc⟩, ⟨to, tc⟩, xn, xr⟩ hN1 hN5) ⟨(Nat.le_of_ble_eq_true rfl), (Nat.le_of_ble_eq_true rfl)⟩ rfl rfl hK hN hP hD x0 rfl hl.1 rfl (Nat.le_of_ble_eq_true rfl) d_X_needed_56 ⟨(Nat.le_of_ble_eq_true rfl), (Nat.le_of_ble_eq_true rfl)⟩) hD hS hA (fun w H locs hw hP hD hS => ?_)
    obtain ⟨⟨L3, T3, o3, x0, x1, hsf, hX, ⟨s0, ⟨sko, skc⟩, ⟨sbo, sbc⟩⟩, ⟨lo, lc⟩, ⟨to, tc⟩, xn, xr⟩, hf⟩ := hw
    have hfr := hfr.in hf (by omega) (by omega)
    refine lv_aload_n hx hb d_X_needed_59 rfl (lv_at hl 0 rfl) ?_
    refine gw_cv (gc_X_160 (As := []) (rest := []) hF hT (c_X_tellLeftRows ⟨x0, x1, hsf, hX, ⟨s0, ⟨sko, skc⟩, ⟨sbo, sbc⟩⟩, ⟨lo, lc⟩, ⟨to, tc⟩, xn, xr⟩ hN1 hN5 (m1 := 0) rfl) ⟨(Nat.le_of_ble_eq_true rfl), (Nat.le_of_ble_eq_true rfl)⟩ rfl rfl hK hN hP hD x0 rfl hl.1 rfl (Nat.le_of_ble_eq_true rfl) d_X_needed_60 ⟨(Nat.le_of_ble_eq_true rfl), (Nat.le_of_ble_eq_true rfl)⟩) hD hS hA (fun w H locs hw hP hD hS => ?_)
    obtain ⟨⟨m4, ne4, o4, p4, x0, x1, hsf, hX, ⟨s0, ⟨sko, skc⟩, ⟨sbo, sbc⟩⟩, ⟨lo, lc⟩, ⟨to, tc⟩, xn, xr⟩, hf⟩ := hw
    have hfr := hfr.in hf (by omega) (by omega)
    refine lv_aload_n hx hb d_X_needed_63 rfl (lv_at hl 0 rfl) ?_
    refine gf_X_55 hF hT hK hP x0 rfl d_X_needed_64 ?_
    exact vx_ret (gw_iret hx hb hr hlocks hK hP hD hS (Nat.le_of_ble_eq_true rfl) (Nat.le_of_ble_eq_true rfl) d_X_needed_67 ⟨h1, k, hk, rfl, _, _, _, _, Or.inr ⟨c1, _, _, o2, o3, o4⟩, p4, rfl, ⟨x0, x1, hsf, hX, ⟨s0, ⟨sko, skc⟩, ⟨sbo, sbc⟩⟩, ⟨lo, lc⟩, ⟨to, tc⟩, xn, xr⟩, hfr⟩)
  · refine lv_aload_n hx hb d_X_needed_21 rfl (lv_at hl 0 rfl) ?_
    refine lv_iconst (v := nI 0) hx hb d_X_needed_22 (by decide) ?_
    refine lv_iconst (v := nI 0) hx hb d_X_needed_23 (by decide) ?_
    refine lv_ldc2 (v := (-1 : Int64)) hx hb hown (hts _ (hT _ wm_3_49)) d_X_needed_24 ?_
    refine gw_cv (gc_X_147 (As := [.int (nI 0), .int (nI 0), .long (-1 : Int64)]) (rest := []) hF hT (c_X_tellRow ⟨x0, x1, hsf, hX, ⟨s0, ⟨sko, skc⟩, ⟨sbo, sbc⟩⟩, ⟨lo, lc⟩, ⟨to, tc⟩, xn, xr⟩ hN1 hN5 (m1 := 0) (by omega)) ⟨(Nat.le_of_ble_eq_true rfl), (Nat.le_of_ble_eq_true rfl)⟩ rfl rfl hK hN hP hD x0 rfl hl.1 rfl (Nat.le_of_ble_eq_true rfl) d_X_needed_27 ⟨(Nat.le_of_ble_eq_true rfl), (Nat.le_of_ble_eq_true rfl)⟩) hD hS hA (fun w H locs hw hP hD hS => ?_)
    obtain ⟨⟨x0, x1, hsf, hX, ⟨s0, ⟨sko, skc⟩, ⟨sbo, sbc⟩⟩, ⟨lo, lc⟩, ⟨to, tc⟩, xn, xr⟩, hf⟩ := hw
    have hfr := hfr.in hf (by omega) (by omega)
    refine lv_aload_n hx hb d_X_needed_30 rfl (lv_at hl 0 rfl) ?_
    refine gf_X_55 hF hT hK hP x0 rfl d_X_needed_31 ?_
    exact vx_ret (gw_iret hx hb hr hlocks hK hP hD hS (Nat.le_of_ble_eq_true rfl) (Nat.le_of_ble_eq_true rfl) d_X_needed_34 ⟨h1, k, hk, rfl, _, _, _, _, Or.inl ⟨c1, rfl, rfl⟩, by omega, rfl, ⟨x0, x1, hsf, hX, ⟨s0, ⟨sko, skc⟩, ⟨sbo, sbc⟩⟩, ⟨lo, lc⟩, ⟨to, tc⟩, xn, xr⟩, hfr⟩)
