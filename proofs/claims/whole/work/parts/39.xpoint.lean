set_option maxHeartbeats 4000000 in
set_option maxRecDepth 100000 in
theorem c_X_greatestBeside {l : Launch} {D : va_G} {cJ cI cZ cS : ClassId} {ws : va_W} {sz : Nat} {b N : Nat} {A : Nat → Nat} {sf : Nat → Option Nat} {K B : Nat → Nat → Int64} {E : Nat → Int32} {Km Bm : Nat → Int64} {Em : Int32} {Lf Tr nu ne : Nat → Int64} {ct : Int32} (hx0 : xAt cJ cS ws b A N sf K B E Km Bm Em Lf Tr nu ne ct) (hN1 : 1 ≤ N) (hN5 : N ≤ 5) {k q : Nat} (hk : k < 8) (hq : q < 2 * N) : Met l y_X_greatestBeside w_X_greatestBeside ({ frames := 3, cells := 0, slots := 0, locals := 43 } : Room) (gw_Pc D classes (gT cJ cI cZ cS) [.ref (A 0), .ref (xsh A k 3), .int (nI q)] ws sz) (va_Ql (fun r w => (r = lr_gbF (B k) nu (2 * N) q) ∧ w = ws) (gw_B D classes (gT cJ cI cZ cS) ws sz) (va_A ws sz)) 0 0 (va_A ws sz) := by
  refine gw_head (by decide) (Nat.le_of_ble_eq_true rfl) (fun p e s m below meth c hsz hx hb hr hlocks hml hown hnm hts hK hN hP hD hS hA ls hl => ?_)
  have hown : s.vm.findClass R_X = some m.cls := hown
  have hT : ∀ w ∈ wG, w ∈ Cond.code y_X_greatestBeside b_X_greatestBeside 7 (some .long) :: wG := gd_t _
  have hF : CallFix p m c b_X_greatestBeside 7 s ([.ref (A 0), .ref (xsh A k 3), .int (nI q)] : List Value).toArray (Cond.code y_X_greatestBeside b_X_greatestBeside 7 (some .long) :: wG) R_X := ⟨hx, hb, hml, hown, hts⟩
  have hl : lv_has ls 7 [(0, .ref (A 0)), (1, .ref (xsh A k 3)), (2, .int (nI q))] := hl
  obtain ⟨x0, x1, hsf, hX, ⟨s0, ⟨sko, skc⟩, ⟨sbo, sbc⟩⟩, ⟨lo, lc⟩, ⟨to, tc⟩, xn, xr⟩ := hx0
  have hn : 2 * N ≤ 10 := by omega
  have he : 2 * N % 2 = 0 := by omega
  refine lv_aload_n hx hb d_X_greatestBeside_0 rfl (lv_at hl 1 rfl) ?_
  refine lv_iload_n hx hb d_X_greatestBeside_1 rfl (lv_at hl 2 rfl) ?_
  refine gw_cl0 (gc_X_219 (As := [.int (nI q)]) (rest := []) hF hT (c_T_half (hX k (by omega)).1.2.2 hn (by omega)) ⟨(Nat.le_of_ble_eq_true rfl), (Nat.le_of_ble_eq_true rfl)⟩ rfl rfl hK hN hP hD (hX k (by omega)).1.2.2.1 rfl hl.1 rfl (Nat.le_of_ble_eq_true rfl) d_X_greatestBeside_2 ⟨(Nat.le_of_ble_eq_true rfl), (Nat.le_of_ble_eq_true rfl)⟩) hD hS hA (fun r1 H locs e_r1 hP hD hS => ?_)
  subst e_r1
  refine lv_lstore_n (lv' := [(3, .long (lr_half (B k) (2 * N) q)), (0, .ref (A 0)), (1, .ref (xsh A k 3)), (2, .int (nI q))]) hx hb d_X_greatestBeside_5 rfl hl (by decide) rfl (fun ls hl => ?_)
  refine lv_iload_n hx hb d_X_greatestBeside_6 rfl (lv_at hl 3 rfl) ?_
  refine lv_iload_n hx hb d_X_greatestBeside_7 rfl (lv_at hl 3 rfl) ?_
  refine lv_iconst (v := nI 2) hx hb d_X_greatestBeside_8 (by decide) ?_
  refine lv_irem hx hb d_X_greatestBeside_9 (by decide) ?_
  refine gx_i (y := nI (q % 2)) (pk_rem (by omega) (by omega) (by omega)) ?_
  refine lv_isub hx hb d_X_greatestBeside_10 ?_
  refine gx_i (y := nI (q - (q % 2))) (pk_sub (by omega)) ?_
  refine lv_istore (lv' := [(5, .int (nI (q - (q % 2)))), (3, .long (lr_half (B k) (2 * N) q)), (0, .ref (A 0)), (1, .ref (xsh A k 3)), (2, .int (nI q))]) hx hb d_X_greatestBeside_11 hl (by decide) rfl (fun ls hl => ?_)
  refine lv_iconst (v := nI 0) hx hb d_X_greatestBeside_13 (by decide) ?_
  refine lv_istore (lv' := [(6, .int (nI 0)), (5, .int (nI (q - (q % 2)))), (3, .long (lr_half (B k) (2 * N) q)), (0, .ref (A 0)), (1, .ref (xsh A k 3)), (2, .int (nI q))]) hx hb d_X_greatestBeside_14 hl (by decide) rfl (fun ls hl => ?_)
  have lp_16 : ∀ (dd jj : Nat), jj + dd = (q - q % 2) → ∀ (H : Heap) (locs : List Loc) (ls : Array Slot), va_P D classes ws H → va_D (va_A ws sz) ws → va_S (va_A ws sz) s.heap H locs → lv_has ls 7 [(6, .int (nI jj)), (5, .int (nI (q - (q % 2)))), (3, .long (lr_gbs (B k) nu (2 * N) q jj)), (0, .ref (A 0)), (1, .ref (xsh A k 3)), (2, .int (nI q))] → W p l e ({ frames := 3, cells := 0, slots := 0, locals := 43 } : Room) s m ([.ref (A 0), .ref (xsh A k 3), .int (nI q)] : List Value).toArray below meth c H locs 0 0 (MQ below (va_Ql (fun r w => (r = lr_gbF (B k) nu (2 * N) q) ∧ w = ws) (gw_B D classes (gT cJ cI cZ cS) ws sz) (va_A ws sz)) ([.ref (A 0), .ref (xsh A k 3), .int (nI q)] : List Value).toArray s 0 0 (va_A ws sz)) (F0 m 16 ls []) := by
    intro dd
    induction dd with
    | zero =>
      intro jj e_jj H locs ls hP hD hS hl
      have e0_jj : (q - q % 2) = jj := by omega
      subst e0_jj
      refine lv_iload hx hb d_X_greatestBeside_16 (lv_at hl 0 rfl) ?_
      refine lv_iload hx hb d_X_greatestBeside_18 (lv_at hl 1 rfl) ?_
      refine lv_icmp_ge (tgt := 51) hx hb d_X_greatestBeside_20 (by decide) (fun c2 => ?_) (fun c2 => ?_)
      · have c2 := (nI_leI (a := (q - (q % 2))) (b := (q - q % 2)) (by omega) (by omega)).mp c2
        refine lv_lload_n hx hb d_X_greatestBeside_51 rfl (lv_at hl 2 rfl) ?_
        exact gw_lret hx hb hr hlocks hK hP hD hS (Nat.le_of_ble_eq_true rfl) (Nat.le_of_ble_eq_true rfl) d_X_greatestBeside_52 ⟨rfl, rfl⟩
      · have c2 : ¬ (q - (q % 2) ≤ (q - q % 2)) := fun z => c2 ((nI_leI (a := (q - (q % 2))) (b := (q - q % 2)) (by omega) (by omega)).mpr z)
        exfalso; omega
    | succ dd ih_16 =>
      intro jj e_jj H locs ls hP hD hS hl
      refine lv_iload hx hb d_X_greatestBeside_16 (lv_at hl 0 rfl) ?_
      refine lv_iload hx hb d_X_greatestBeside_18 (lv_at hl 1 rfl) ?_
      refine lv_icmp_ge (tgt := 51) hx hb d_X_greatestBeside_20 (by decide) (fun c3 => ?_) (fun c3 => ?_)
      · have c3 := (nI_leI (a := (q - (q % 2))) (b := jj) (by omega) (by omega)).mp c3
        exfalso; omega
      · have c3 : ¬ (q - (q % 2) ≤ jj) := fun z => c3 ((nI_leI (a := (q - (q % 2))) (b := jj) (by omega) (by omega)).mpr z)
        refine lv_lload_n hx hb d_X_greatestBeside_23 rfl (lv_at hl 2 rfl) ?_
        refine lv_aload_n hx hb d_X_greatestBeside_24 rfl (lv_at hl 4 rfl) ?_
        refine lv_iload_n hx hb d_X_greatestBeside_25 rfl (lv_at hl 5 rfl) ?_
        refine lv_iload hx hb d_X_greatestBeside_26 (lv_at hl 0 rfl) ?_
        refine gw_cl0 (gc_X_138 (As := [.int (nI q), .int (nI jj)]) (rest := [.long (lr_gbs (B k) nu (2 * N) q jj)]) hF hT (c_T_at (hX k (by omega)).1.2.2 hn (by omega) (by omega)) ⟨(Nat.le_of_ble_eq_true rfl), (Nat.le_of_ble_eq_true rfl)⟩ rfl rfl hK hN hP hD (hX k (by omega)).1.2.2.1 rfl hl.1 rfl (Nat.le_of_ble_eq_true rfl) d_X_greatestBeside_28 ⟨(Nat.le_of_ble_eq_true rfl), (Nat.le_of_ble_eq_true rfl)⟩) hD hS hA (fun r4 H locs e_r4 hP hD hS => ?_)
        subst e_r4
        refine lv_aload_n hx hb d_X_greatestBeside_31 rfl (lv_at hl 3 rfl) ?_
        refine lv_iload hx hb d_X_greatestBeside_32 (lv_at hl 0 rfl) ?_
        refine gw_cl0 (gc_X_134 (As := [.int (nI jj)]) (rest := [.long ((B k) (q * (2 * N) + jj)), .long (lr_gbs (B k) nu (2 * N) q jj)]) hF hT (c_X_numberAt ⟨x0, x1, hsf, hX, ⟨s0, ⟨sko, skc⟩, ⟨sbo, sbc⟩⟩, ⟨lo, lc⟩, ⟨to, tc⟩, xn, xr⟩ hN1 hN5 (i := jj) (by omega)) ⟨(Nat.le_of_ble_eq_true rfl), (Nat.le_of_ble_eq_true rfl)⟩ rfl rfl hK hN hP hD x0 rfl hl.1 rfl (Nat.le_of_ble_eq_true rfl) d_X_greatestBeside_34 ⟨(Nat.le_of_ble_eq_true rfl), (Nat.le_of_ble_eq_true rfl)⟩) hD hS hA (fun r5 H locs e_r5 hP hD hS => ?_)
        subst e_r5
        refine lv_lneg hx hb d_X_greatestBeside_37 ?_
        refine gw_cl0 (gc_X_222 (As := [.long ((B k) (q * (2 * N) + jj)), .long (-(lr_num nu jj))]) (rest := [.long (lr_gbs (B k) nu (2 * N) q jj)]) hF hT c_X_plus ⟨(Nat.le_of_ble_eq_true rfl), (Nat.le_of_ble_eq_true rfl)⟩ rfl rfl hK hN hP hD rfl hl.1 rfl (Nat.le_of_ble_eq_true rfl) d_X_greatestBeside_38 ⟨(Nat.le_of_ble_eq_true rfl), (Nat.le_of_ble_eq_true rfl)⟩) hD hS hA (fun r6 H locs e_r6 hP hD hS => ?_)
        subst e_r6
        refine va_mmin_long hx hb (by rw [hml]; exact hl.1.symm) hown (hts _ (hT _ wm_3_41)) (hts _ (hT _ wm_2_22)) (hts _ (hT _ wm_1_2)) (hts _ (hT _ wm_2_23)) (Nat.le_of_ble_eq_true rfl) (Nat.le_of_ble_eq_true rfl) (Nat.le_of_ble_eq_true rfl) (Nat.le_of_ble_eq_true rfl) d_X_greatestBeside_41 ?_
        refine gx_l (y := lr_min (lr_gbs (B k) nu (2 * N) q jj) (lr_plus (B k (q * (2 * N) + jj)) (-lr_num nu jj))) rfl ?_
        refine lv_lstore_n (lv' := [(3, .long (lr_min (lr_gbs (B k) nu (2 * N) q jj) (lr_plus (B k (q * (2 * N) + jj)) (-lr_num nu jj)))), (6, .int (nI jj)), (5, .int (nI (q - (q % 2)))), (0, .ref (A 0)), (1, .ref (xsh A k 3)), (2, .int (nI q))]) hx hb d_X_greatestBeside_44 rfl hl (by decide) rfl (fun ls hl => ?_)
        refine lv_iinc (v := nI (jj + 1)) (lv' := [(6, .int (nI (jj + 1))), (3, .long (lr_min (lr_gbs (B k) nu (2 * N) q jj) (lr_plus (B k (q * (2 * N) + jj)) (-lr_num nu jj)))), (5, .int (nI (q - (q % 2)))), (0, .ref (A 0)), (1, .ref (xsh A k 3)), (2, .int (nI q))]) hx hb d_X_greatestBeside_45 hl (k := 1) rfl (gx_inc _) (by decide) rfl (fun ls hl => ?_)
        refine lv_goto (tgt := 16) hx hb d_X_greatestBeside_48 (by decide) ?_
        exact ih_16 (jj + 1) (by omega) _ _ _  hP hD hS (lv_sub hl [0, 2, 1, 3, 4, 5] rfl)
  exact lp_16 (q - q % 2) 0 (by omega) _ _ _  hP hD hS (lv_sub hl [0, 1, 2, 3, 4, 5] rfl)

set_option maxHeartbeats 4000000 in
set_option maxRecDepth 100000 in
theorem c_X_sampleNumber {l : Launch} {D : va_G} {cJ cI cZ cS : ClassId} {ws : va_W} {sz : Nat} {b N : Nat} {A : Nat → Nat} {sf : Nat → Option Nat} {K B : Nat → Nat → Int64} {E : Nat → Int32} {Km Bm : Nat → Int64} {Em : Int32} {Lf Tr nu ne : Nat → Int64} {ct : Int32} (hx0 : xAt cJ cS ws b A N sf K B E Km Bm Em Lf Tr nu ne ct) (hN1 : 1 ≤ N) (hN5 : N ≤ 5) {k x : Nat} (hk : k < 8) (hx1 : 1 ≤ x) (hxN : x ≤ N) : Met l y_X_sampleNumber w_X_sampleNumber ({ frames := 4, cells := 0, slots := 0, locals := 69 } : Room) (gw_Pc D classes (gT cJ cI cZ cS) [.ref (A 0), .ref (xsh A k 3), .int (nI x)] ws sz) (va_Ql (fun r w => (r = lr_smp (B k) nu (2 * N) x) ∧ w = ws) (gw_B D classes (gT cJ cI cZ cS) ws sz) (va_A ws sz)) 0 0 (va_A ws sz) := by
  refine gw_head (by decide) (Nat.le_of_ble_eq_true rfl) (fun p e s m below meth c hsz hx hb hr hlocks hml hown hnm hts hK hN hP hD hS hA ls hl => ?_)
  have hown : s.vm.findClass R_X = some m.cls := hown
  have hT : ∀ w ∈ wG, w ∈ Cond.code y_X_sampleNumber b_X_sampleNumber 7 (some .long) :: wG := gd_t _
  have hF : CallFix p m c b_X_sampleNumber 7 s ([.ref (A 0), .ref (xsh A k 3), .int (nI x)] : List Value).toArray (Cond.code y_X_sampleNumber b_X_sampleNumber 7 (some .long) :: wG) R_X := ⟨hx, hb, hml, hown, hts⟩
  have hl : lv_has ls 7 [(0, .ref (A 0)), (1, .ref (xsh A k 3)), (2, .int (nI x))] := hl
  obtain ⟨x0, x1, hsf, hX, ⟨s0, ⟨sko, skc⟩, ⟨sbo, sbc⟩⟩, ⟨lo, lc⟩, ⟨to, tc⟩, xn, xr⟩ := hx0
  have hn : 2 * N ≤ 10 := by omega
  have he : 2 * N % 2 = 0 := by omega
  refine lv_aload_n hx hb d_X_sampleNumber_0 rfl (lv_at hl 0 rfl) ?_
  refine lv_aload_n hx hb d_X_sampleNumber_1 rfl (lv_at hl 1 rfl) ?_
  refine lv_iload_n hx hb d_X_sampleNumber_2 rfl (lv_at hl 2 rfl) ?_
  refine lv_ineg hx hb d_X_sampleNumber_3 ?_
  refine gw_ci0 (gc_X_177 (As := [.int (-(nI x))]) (rest := [.ref (xsh A k 3), .ref (A 0)]) hF hT (c_X_placeOf (neg_small (nI_small (by omega))) (mI_nz (by omega) (by omega))) ⟨(Nat.le_of_ble_eq_true rfl), (Nat.le_of_ble_eq_true rfl)⟩ rfl rfl hK hN hP hD rfl hl.1 rfl (Nat.le_of_ble_eq_true rfl) d_X_sampleNumber_4 ⟨(Nat.le_of_ble_eq_true rfl), (Nat.le_of_ble_eq_true rfl)⟩) hD hS hA (fun r1 H locs e_r1 hP hD hS => ?_)
  subst e_r1
  refine gw_cl0 (gc_X_216 (As := [.ref (xsh A k 3), .int (nI (lr_pl (-(nI x))))]) (rest := []) hF hT (c_X_greatestBeside ⟨x0, x1, hsf, hX, ⟨s0, ⟨sko, skc⟩, ⟨sbo, sbc⟩⟩, ⟨lo, lc⟩, ⟨to, tc⟩, xn, xr⟩ hN1 hN5 (k := k) (q := lr_pl (-(nI x))) (by omega) (by rw [lr_pl_mI (by omega) (by omega)]; omega)) ⟨(Nat.le_of_ble_eq_true rfl), (Nat.le_of_ble_eq_true rfl)⟩ rfl rfl hK hN hP hD x0 rfl hl.1 rfl (Nat.le_of_ble_eq_true rfl) d_X_sampleNumber_7 ⟨(Nat.le_of_ble_eq_true rfl), (Nat.le_of_ble_eq_true rfl)⟩) hD hS hA (fun r2 H locs e_r2 hP hD hS => ?_)
  subst e_r2
  refine lv_lstore_n (lv' := [(3, .long (lr_gbF (B k) nu (2 * N) (lr_pl (-(nI x))))), (0, .ref (A 0)), (1, .ref (xsh A k 3)), (2, .int (nI x))]) hx hb d_X_sampleNumber_10 rfl hl (by decide) rfl (fun ls hl => ?_)
  refine lv_lload_n hx hb d_X_sampleNumber_11 rfl (lv_at hl 0 rfl) ?_
  refine lv_ldc2 (v := lr_E) hx hb hown (hts _ (hT _ wm_2_61)) d_X_sampleNumber_12 ?_
  refine gx_leq (tgt := 22) hx hb d_X_sampleNumber_15 d_X_sampleNumber_16 (by decide) (fun c3 => ?_) (fun c3 => ?_)
  · refine lv_aload_n hx hb d_X_sampleNumber_22 rfl (lv_at hl 1 rfl) ?_
    refine lv_aload_n hx hb d_X_sampleNumber_23 rfl (lv_at hl 2 rfl) ?_
    refine lv_iload_n hx hb d_X_sampleNumber_24 rfl (lv_at hl 3 rfl) ?_
    refine gw_ci0 (gc_X_177 (As := [.int (nI x)]) (rest := [.ref (xsh A k 3), .ref (A 0)]) hF hT (c_X_placeOf (nI_small (by omega)) (nI_nz (by omega) (by omega))) ⟨(Nat.le_of_ble_eq_true rfl), (Nat.le_of_ble_eq_true rfl)⟩ rfl rfl hK hN hP hD rfl hl.1 rfl (Nat.le_of_ble_eq_true rfl) d_X_sampleNumber_25 ⟨(Nat.le_of_ble_eq_true rfl), (Nat.le_of_ble_eq_true rfl)⟩) hD hS hA (fun r4 H locs e_r4 hP hD hS => ?_)
    subst e_r4
    refine gw_cl0 (gc_X_216 (As := [.ref (xsh A k 3), .int (nI (lr_pl (nI x)))]) (rest := []) hF hT (c_X_greatestBeside ⟨x0, x1, hsf, hX, ⟨s0, ⟨sko, skc⟩, ⟨sbo, sbc⟩⟩, ⟨lo, lc⟩, ⟨to, tc⟩, xn, xr⟩ hN1 hN5 (k := k) (q := lr_pl (nI x)) (by omega) (by rw [lr_pl_nI (by omega) (by omega)]; omega)) ⟨(Nat.le_of_ble_eq_true rfl), (Nat.le_of_ble_eq_true rfl)⟩ rfl rfl hK hN hP hD x0 rfl hl.1 rfl (Nat.le_of_ble_eq_true rfl) d_X_sampleNumber_28 ⟨(Nat.le_of_ble_eq_true rfl), (Nat.le_of_ble_eq_true rfl)⟩) hD hS hA (fun r5 H locs e_r5 hP hD hS => ?_)
    subst e_r5
    refine lv_lstore (lv' := [(5, .long (lr_gbF (B k) nu (2 * N) (lr_pl (nI x)))), (3, .long (lr_gbF (B k) nu (2 * N) (lr_pl (-(nI x))))), (0, .ref (A 0)), (1, .ref (xsh A k 3)), (2, .int (nI x))]) hx hb d_X_sampleNumber_31 hl (by decide) rfl (fun ls hl => ?_)
    refine lv_lload hx hb d_X_sampleNumber_33 (lv_at hl 0 rfl) ?_
    refine lv_ldc2 (v := lr_E) hx hb hown (hts _ (hT _ wm_2_61)) d_X_sampleNumber_35 ?_
    refine gx_leq (tgt := 47) hx hb d_X_sampleNumber_38 d_X_sampleNumber_39 (by decide) (fun c6 => ?_) (fun c6 => ?_)
    · refine lv_lconst (v := 0) hx hb d_X_sampleNumber_47 rfl ?_
      exact gw_lret hx hb hr hlocks hK hP hD hS (Nat.le_of_ble_eq_true rfl) (Nat.le_of_ble_eq_true rfl) d_X_sampleNumber_48 ⟨((if_pos c3).trans (if_pos c6)).symm, rfl⟩
    · refine lv_lload hx hb d_X_sampleNumber_42 (lv_at hl 0 rfl) ?_
      refine lv_goto (tgt := 48) hx hb d_X_sampleNumber_44 (by decide) ?_
      exact gw_lret hx hb hr hlocks hK hP hD hS (Nat.le_of_ble_eq_true rfl) (Nat.le_of_ble_eq_true rfl) d_X_sampleNumber_48 ⟨((if_pos c3).trans (if_neg c6)).symm, rfl⟩
  · refine lv_lload_n hx hb d_X_sampleNumber_19 rfl (lv_at hl 0 rfl) ?_
    refine lv_lneg hx hb d_X_sampleNumber_20 ?_
    exact gw_lret hx hb hr hlocks hK hP hD hS (Nat.le_of_ble_eq_true rfl) (Nat.le_of_ble_eq_true rfl) d_X_sampleNumber_21 ⟨(if_neg c3).symm, rfl⟩

set_option maxHeartbeats 4000000 in
set_option maxRecDepth 100000 in
theorem c_X_sample {l : Launch} (hlt : l.stackTraces = false) {D : va_G} {cJ cI cZ cS : ClassId} {ws : va_W} {sz base : Nat} {b N : Nat} {A : Nat → Nat} {sf : Nat → Option Nat} {K B : Nat → Nat → Int64} {E : Nat → Int32} {Km Bm : Nat → Int64} {Em : Int32} {Lf Tr nu ne : Nat → Int64} {ct : Int32} (hx0 : xAt cJ cS ws b A N sf K B E Km Bm Em Lf Tr nu ne ct) (hN1 : 1 ≤ N) (hN5 : N ≤ 5) (hEm : Em = 0 ∨ Em = 1) {x : Int32} : vx_Met l y_X_sample w_X_sample ({ frames := 7, cells := 1, slots := 6, locals := 110 } : Room) (gx_Pc D classes (gT cJ cI cZ cS) [.ref (A 0), .int x] ws sz base) (va_Qi (fun r w => okS x ∧ ∃ k, k < 8 ∧ x = nI k ∧ ∃ nu2, ((¬ E k = 0 ∧ r = nI 0 ∧ nu2 = nu) ∨ (E k = 0 ∧ r = nI 1 ∧ nu2 = lr_smpI (B k) nu (2 * N) N)) ∧ xAt cJ cS w b A N sf K B E Km Bm Em Lf Tr nu2 ne ct ∧ gF b (b + 53) ws w) (gw_B D classes (gT cJ cI cZ cS) ws sz) (va_A ws sz)) (gX D classes (gT cJ cI cZ cS) ws sz (fun Z w => Z = xIOOB ∧ ¬ (okS x) ∧ w = ws)) 1 6 (va_A ws sz) := by
  refine gx_head (by decide) (Nat.le_of_ble_eq_true rfl) (fun p e s m below meth c hsz hx hb hr hlocks hml hown hnm hts hK hN hP hD hS hA hB hE hno ls hl => ?_)
  have hown : s.vm.findClass R_X = some m.cls := hown
  have hT : ∀ w ∈ wG, w ∈ Cond.code y_X_sample b_X_sample 3 (some .boolean) :: wG := gd_t _
  have hF : CallFix p m c b_X_sample 3 s ([.ref (A 0), .int x] : List Value).toArray (Cond.code y_X_sample b_X_sample 3 (some .boolean) :: wG) R_X := ⟨hx, hb, hml, hown, hts⟩
  have hl : lv_has ls 3 [(0, .ref (A 0)), (1, .int x)] := hl
  obtain ⟨x0, x1, hsf, hX, ⟨s0, ⟨sko, skc⟩, ⟨sbo, sbc⟩⟩, ⟨lo, lc⟩, ⟨to, tc⟩, xn, xr⟩ := hx0
  have hn : 2 * N ≤ 10 := by omega
  have he : 2 * N % 2 = 0 := by omega
  have hfr : gF b (b + 53) ws ws := gF.rf
  refine lv_iload_n hx hb d_X_sample_0 rfl (lv_at hl 1 rfl) ?_
  refine gx_cv0 (gxc_X_58 (As := [.int x]) (rest := []) hF hT (c_X_checkShape hlt) ⟨(Nat.le_of_ble_eq_true rfl), (Nat.le_of_ble_eq_true rfl)⟩ rfl rfl (gx_pre hK hN hP hD hS hB hA hE) rfl hl.1 rfl (Nat.le_of_ble_eq_true rfl) d_X_sample_1 ⟨(Nat.le_of_ble_eq_true rfl), (Nat.le_of_ble_eq_true rfl)⟩) hK hD hS hA hno hlocks (Nat.le_of_ble_eq_true rfl) (Nat.le_of_ble_eq_true rfl) (fun Z u q => by obtain ⟨q1, q2, q3⟩ := q; exact ⟨q1, q2, q3⟩) (fun H locs h1 hP hD hS => ?_)
  obtain ⟨kx, hk, rfl⟩ := h1.k
  refine lv_aload_n hx hb d_X_sample_4 rfl (lv_at hl 0 rfl) ?_
  refine gf_X_27 hF hT hK hP x0 rfl d_X_sample_5 ?_
  refine lv_iload_n hx hb d_X_sample_8 rfl (lv_at hl 1 rfl) ?_
  refine g_aald (t0 := 3) (k := kx) hx hb hK hP x1 rfl (by omega) (by decide) (hsf kx (by omega)) d_X_sample_9 ?_
  refine gf_X_123 hF hT hN hK hP (hX kx (by omega)).1.1 rfl d_X_sample_10 ?_
  refine lv_if_eq (tgt := 18) hx hb d_X_sample_13 (by decide) (fun c1 => ?_) (fun c1 => ?_)
  · refine lv_iconst (v := nI 1) hx hb d_X_sample_18 (by decide) ?_
    refine lv_istore_n (lv' := [(2, .int (nI 1)), (0, .ref (A 0)), (1, .int (nI kx))]) hx hb d_X_sample_19 rfl hl (by decide) rfl (fun ls hl => ?_)
    have lp_20 : ∀ (dd t : Nat), t + dd = N → ∀ (w : va_W) (H : Heap) (locs : List Loc) (ls : Array Slot), w[b]? = some (A 0, .inr (2, [.int (nI N), .int (nI (2 * N)), .ref (A 1), .ref (xmd A 0), .ref (A 47), .ref (A 49), .ref (A 51), .ref (A 52), .int ct])) → w[b + 1]? = some (A 1, .inl (cS, 8, .inr (.inr (.inr (.inr sf))))) → w[b + 42]? = some (xmd A 0, .inr (1, [.int (nI (2 * N)), .ref (xmd A 1), .ref (xmd A 3), .int Em])) → w[b + 42 + 1]? = some (xmd A 1, .inr (0, [.int (nI (2 * N)), .ref (xmd A 2)])) → w[b + 42 + 1 + 1]? = some (xmd A 2, .inl (cJ, (2 * N) * (2 * N), .inr (.inl Km))) → w[b + 42 + 3]? = some (xmd A 3, .inr (0, [.int (nI (2 * N)), .ref (xmd A 4)])) → w[b + 42 + 3 + 1]? = some (xmd A 4, .inl (cJ, (2 * N) * (2 * N), .inr (.inl Bm))) → w[b + 47]? = some (A 47, .inr (0, [.int (nI (2 * N)), .ref (A 48)])) → w[b + 47 + 1]? = some (A 48, .inl (cJ, (2 * N) * (2 * N), .inr (.inl Lf))) → w[b + 49]? = some (A 49, .inr (0, [.int (nI (2 * N)), .ref (A 50)])) → w[b + 49 + 1]? = some (A 50, .inl (cJ, (2 * N) * (2 * N), .inr (.inl Tr))) → w[b + 51]? = some (A 51, .inl (cJ, N, .inr (.inl (lr_smpI (B kx) nu (2 * N) t)))) → w[b + 52]? = some (A 52, .inl (cJ, 6 * (N * N), .inr (.inl ne))) → xFam cJ w b A (2 * N) K B E → gF b (b + 53) ws w → va_P D classes w H → va_D (va_A ws sz) w → va_S (va_A ws sz) s.heap H locs → lv_has ls 3 [(2, .int (nI (1 + t))), (0, .ref (A 0)), (1, .int (nI kx))] → W p l e ({ frames := 7, cells := 1, slots := 6, locals := 110 } : Room) s m ([.ref (A 0), .int (nI kx)] : List Value).toArray below meth c H locs 1 6 (vx_MQ below (va_Qi (fun r w => okS (nI kx) ∧ ∃ k, k < 8 ∧ (nI kx) = nI k ∧ ∃ nu2, ((¬ E k = 0 ∧ r = nI 0 ∧ nu2 = nu) ∨ (E k = 0 ∧ r = nI 1 ∧ nu2 = lr_smpI (B k) nu (2 * N) N)) ∧ xAt cJ cS w b A N sf K B E Km Bm Em Lf Tr nu2 ne ct ∧ gF b (b + 53) ws w) (gw_B D classes (gT cJ cI cZ cS) ws sz) (va_A ws sz)) (gX D classes (gT cJ cI cZ cS) ws sz (fun Z w => Z = xIOOB ∧ ¬ (okS (nI kx)) ∧ w = ws)) ([.ref (A 0), .int (nI kx)] : List Value).toArray s 1 6 (va_A ws sz)) (F0 m 20 ls []) := by
      intro dd
      induction dd with
      | zero =>
        intro t e_t w H locs ls x0 x1 s0 sko skc sbo sbc lo lc to tc xn xr hX hfr hP hD hS hl
        have e0_t : N = t := by omega
        subst e0_t
        refine lv_iload_n hx hb d_X_sample_20 rfl (lv_at hl 0 rfl) ?_
        refine lv_aload_n hx hb d_X_sample_21 rfl (lv_at hl 1 rfl) ?_
        refine gf_X_18 hF hT hK hP x0 rfl d_X_sample_22 ?_
        refine lv_icmp_gt (tgt := 56) hx hb d_X_sample_25 (by decide) (fun c2 => ?_) (fun c2 => ?_)
        · have c2 := (nI_ltI (a := N) (b := (1 + N)) (by omega) (by omega)).mp c2
          refine lv_iconst (v := nI 1) hx hb d_X_sample_56 (by decide) ?_
          exact vx_ret (gw_zret hx hb hr hlocks hK hP hD hS (Nat.le_of_ble_eq_true rfl) (Nat.le_of_ble_eq_true rfl) rfl d_X_sample_57 ⟨h1, kx, hk, rfl, _, Or.inr ⟨c1, rfl, rfl⟩, ⟨x0, x1, hsf, hX, ⟨s0, ⟨sko, skc⟩, ⟨sbo, sbc⟩⟩, ⟨lo, lc⟩, ⟨to, tc⟩, xn, xr⟩, hfr⟩)
        · have c2 : ¬ (N < 1 + N) := fun z => c2 ((nI_ltI (a := N) (b := (1 + N)) (by omega) (by omega)).mpr z)
          exfalso; omega
      | succ dd ih_20 =>
        intro t e_t w H locs ls x0 x1 s0 sko skc sbo sbc lo lc to tc xn xr hX hfr hP hD hS hl
        refine lv_iload_n hx hb d_X_sample_20 rfl (lv_at hl 0 rfl) ?_
        refine lv_aload_n hx hb d_X_sample_21 rfl (lv_at hl 1 rfl) ?_
        refine gf_X_18 hF hT hK hP x0 rfl d_X_sample_22 ?_
        refine lv_icmp_gt (tgt := 56) hx hb d_X_sample_25 (by decide) (fun c3 => ?_) (fun c3 => ?_)
        · have c3 := (nI_ltI (a := N) (b := (1 + t)) (by omega) (by omega)).mp c3
          exfalso; omega
        · have c3 : ¬ (N < 1 + t) := fun z => c3 ((nI_ltI (a := N) (b := (1 + t)) (by omega) (by omega)).mpr z)
          refine lv_aload_n hx hb d_X_sample_28 rfl (lv_at hl 1 rfl) ?_
          refine gf_X_48 hF hT hK hP x0 rfl d_X_sample_29 ?_
          refine lv_iload_n hx hb d_X_sample_32 rfl (lv_at hl 0 rfl) ?_
          refine lv_iconst (v := nI 1) hx hb d_X_sample_33 (by decide) ?_
          refine lv_isub hx hb d_X_sample_34 ?_
          refine gx_i (y := nI ((1 + t) - 1)) (pk_sub (by omega)) ?_
          refine lv_aload_n hx hb d_X_sample_35 rfl (lv_at hl 1 rfl) ?_
          refine lv_aload_n hx hb d_X_sample_36 rfl (lv_at hl 1 rfl) ?_
          refine gf_X_27 hF hT hK hP x0 rfl d_X_sample_37 ?_
          refine lv_iload_n hx hb d_X_sample_40 rfl (lv_at hl 2 rfl) ?_
          refine g_aald (t0 := 3) (k := kx) hx hb hK hP x1 rfl (by omega) (by decide) (hsf kx (by omega)) d_X_sample_41 ?_
          refine gf_X_127 hF hT hN hK hP (hX kx (by omega)).1.1 rfl d_X_sample_42 ?_
          refine lv_iload_n hx hb d_X_sample_45 rfl (lv_at hl 0 rfl) ?_
          refine gw_cl0 (gc_X_141 (As := [.ref (xsh A kx 3), .int (nI (1 + t))]) (rest := [.int (nI ((1 + t) - 1)), .ref (A 51)]) hF hT (c_X_sampleNumber ⟨x0, x1, hsf, hX, ⟨s0, ⟨sko, skc⟩, ⟨sbo, sbc⟩⟩, ⟨lo, lc⟩, ⟨to, tc⟩, xn, xr⟩ hN1 hN5 (k := kx) (x := 1 + t) (by omega) (by omega) (by omega)) ⟨(Nat.le_of_ble_eq_true rfl), (Nat.le_of_ble_eq_true rfl)⟩ rfl rfl hK hN hP hD x0 rfl hl.1 rfl (Nat.le_of_ble_eq_true rfl) d_X_sample_46 ⟨(Nat.le_of_ble_eq_true rfl), (Nat.le_of_ble_eq_true rfl)⟩) hD hS hA (fun r4 H locs e_r4 hP hD hS => ?_)
          subst e_r4
          refine g_last (t0 := 0) (k := (1 + t) - 1) hx hb hK hP hD hS xn rfl (by omega) (by omega) d_X_sample_49 (fun w H locs xn hf hP hD hS => ?_)
          have x0 := hf.at x0 (by omega)
          have x1 := hf.at x1 (by omega)
          have s0 := hf.at s0 (by omega)
          have sko := hf.at sko (by omega)
          have skc := hf.at skc (by omega)
          have sbo := hf.at sbo (by omega)
          have sbc := hf.at sbc (by omega)
          have lo := hf.at lo (by omega)
          have lc := hf.at lc (by omega)
          have to := hf.at to (by omega)
          have tc := hf.at tc (by omega)
          have xr := hf.at xr (by omega)
          have hX := hX.kept hf (by omega)
          have hfr := hfr.in hf (by omega) (by omega)
          refine lv_iinc (v := nI (1 + t + 1)) (lv' := [(2, .int (nI (1 + t + 1))), (0, .ref (A 0)), (1, .int (nI kx))]) hx hb d_X_sample_50 hl (k := 0) rfl (gx_inc _) (by decide) rfl (fun ls hl => ?_)
          refine lv_goto (tgt := 20) hx hb d_X_sample_53 (by decide) ?_
          exact ih_20 (t + 1) (by omega) _ _ _ _ x0 x1 s0 sko skc sbo sbc lo lc to tc xn xr hX hfr hP hD hS (lv_sub hl [0, 1, 2] rfl)
    exact lp_20 N 0 (by omega) _ _ _ _ x0 x1 s0 sko skc sbo sbc lo lc to tc xn xr hX hfr hP hD hS (lv_sub hl [0, 1, 2] rfl)
  · refine lv_iconst (v := nI 0) hx hb d_X_sample_16 (by decide) ?_
    exact vx_ret (gw_zret hx hb hr hlocks hK hP hD hS (Nat.le_of_ble_eq_true rfl) (Nat.le_of_ble_eq_true rfl) rfl d_X_sample_17 ⟨h1, kx, hk, rfl, _, Or.inl ⟨c1, rfl, rfl⟩, ⟨x0, x1, hsf, hX, ⟨s0, ⟨sko, skc⟩, ⟨sbo, sbc⟩⟩, ⟨lo, lc⟩, ⟨to, tc⟩, xn, xr⟩, hfr⟩)

set_option maxHeartbeats 4000000 in
set_option maxRecDepth 100000 in
theorem c_X_tellRow {l : Launch} {D : va_G} {cJ cI cZ cS : ClassId} {ws : va_W} {sz : Nat} {b N : Nat} {A : Nat → Nat} {sf : Nat → Option Nat} {K B : Nat → Nat → Int64} {E : Nat → Int32} {Km Bm : Nat → Int64} {Em : Int32} {Lf Tr nu ne : Nat → Int64} {m1 : Nat} (hx0 : xAt cJ cS ws b A N sf K B E Km Bm Em Lf Tr nu ne (nI m1)) (hN1 : 1 ≤ N) (hN5 : N ≤ 5) (hm1 : m1 < 2 * (N * N)) {y z : Int32} {v : Int64} : Met l y_X_tellRow w_X_tellRow ({ frames := 1, cells := 0, slots := 0, locals := 0 } : Room) (gw_Pc D classes (gT cJ cI cZ cS) [.ref (A 0), .int y, .int z, .long v] ws sz) (va_Qv (fun w => xAt cJ cS w b A N sf K B E Km Bm Em Lf Tr nu (lr_tell ne m1 y z v) (nI (m1 + 1)) ∧ gF b (b + 53) ws w) (gw_B D classes (gT cJ cI cZ cS) ws sz) (va_A ws sz)) 0 0 (va_A ws sz) := by
  refine gw_head (by decide) (Nat.le_of_ble_eq_true rfl) (fun p e s m below meth c hsz hx hb hr hlocks hml hown hnm hts hK hN hP hD hS hA ls hl => ?_)
  have hown : s.vm.findClass R_X = some m.cls := hown
  have hT : ∀ w ∈ wG, w ∈ Cond.code y_X_tellRow b_X_tellRow 6 none :: wG := gd_t _
  have hF : CallFix p m c b_X_tellRow 6 s ([.ref (A 0), .int y, .int z, .long v] : List Value).toArray (Cond.code y_X_tellRow b_X_tellRow 6 none :: wG) R_X := ⟨hx, hb, hml, hown, hts⟩
  have hl : lv_has ls 6 [(0, .ref (A 0)), (1, .int y), (2, .int z), (3, .long v)] := hl
  obtain ⟨x0, x1, hsf, hX, ⟨s0, ⟨sko, skc⟩, ⟨sbo, sbc⟩⟩, ⟨lo, lc⟩, ⟨to, tc⟩, xn, xr⟩ := hx0
  have hn : 2 * N ≤ 10 := by omega
  have he : 2 * N % 2 = 0 := by omega
  have hNN := lr_nn hN5
  have hfr : gF b (b + 53) ws ws := gF.rf
  refine lv_iconst (v := nI 3) hx hb d_X_tellRow_0 (by decide) ?_
  refine lv_aload_n hx hb d_X_tellRow_1 rfl (lv_at hl 0 rfl) ?_
  refine gf_X_55 hF hT hK hP x0 rfl d_X_tellRow_2 ?_
  refine lv_imul hx hb d_X_tellRow_5 ?_
  refine gx_i (y := nI (3 * m1)) (pk_mul _ _) ?_
  refine lv_istore (lv' := [(5, .int (nI (3 * m1))), (0, .ref (A 0)), (1, .int y), (2, .int z), (3, .long v)]) hx hb d_X_tellRow_6 hl (by decide) rfl (fun ls hl => ?_)
  refine lv_aload_n hx hb d_X_tellRow_8 rfl (lv_at hl 1 rfl) ?_
  refine gf_X_52 hF hT hK hP x0 rfl d_X_tellRow_9 ?_
  refine lv_iload hx hb d_X_tellRow_12 (lv_at hl 0 rfl) ?_
  refine lv_iload_n hx hb d_X_tellRow_14 rfl (lv_at hl 2 rfl) ?_
  refine lv_i2l (v := (y).toInt64) hx hb d_X_tellRow_15 rfl ?_
  refine g_last (t0 := 0) (k := 3 * m1) hx hb hK hP hD hS xr rfl (by omega) (by omega) d_X_tellRow_16 (fun w H locs xr hf hP hD hS => ?_)
  have x0 := hf.at x0 (by omega)
  have x1 := hf.at x1 (by omega)
  have s0 := hf.at s0 (by omega)
  have sko := hf.at sko (by omega)
  have skc := hf.at skc (by omega)
  have sbo := hf.at sbo (by omega)
  have sbc := hf.at sbc (by omega)
  have lo := hf.at lo (by omega)
  have lc := hf.at lc (by omega)
  have to := hf.at to (by omega)
  have tc := hf.at tc (by omega)
  have xn := hf.at xn (by omega)
  have hX := hX.kept hf (by omega)
  have hfr := hfr.in hf (by omega) (by omega)
  refine lv_aload_n hx hb d_X_tellRow_17 rfl (lv_at hl 1 rfl) ?_
  refine gf_X_52 hF hT hK hP x0 rfl d_X_tellRow_18 ?_
  refine lv_iload hx hb d_X_tellRow_21 (lv_at hl 0 rfl) ?_
  refine lv_iconst (v := nI 1) hx hb d_X_tellRow_23 (by decide) ?_
  refine lv_iadd hx hb d_X_tellRow_24 ?_
  refine gx_i (y := nI ((3 * m1) + 1)) (nI_add _ _) ?_
  refine lv_iload_n hx hb d_X_tellRow_25 rfl (lv_at hl 3 rfl) ?_
  refine lv_i2l (v := (z).toInt64) hx hb d_X_tellRow_26 rfl ?_
  refine g_last (t0 := 0) (k := (3 * m1) + 1) hx hb hK hP hD hS xr rfl (by omega) (by omega) d_X_tellRow_27 (fun w H locs xr hf hP hD hS => ?_)
  have x0 := hf.at x0 (by omega)
  have x1 := hf.at x1 (by omega)
  have s0 := hf.at s0 (by omega)
  have sko := hf.at sko (by omega)
  have skc := hf.at skc (by omega)
  have sbo := hf.at sbo (by omega)
  have sbc := hf.at sbc (by omega)
  have lo := hf.at lo (by omega)
  have lc := hf.at lc (by omega)
  have to := hf.at to (by omega)
  have tc := hf.at tc (by omega)
  have xn := hf.at xn (by omega)
  have hX := hX.kept hf (by omega)
  have hfr := hfr.in hf (by omega) (by omega)
  refine lv_aload_n hx hb d_X_tellRow_28 rfl (lv_at hl 1 rfl) ?_
  refine gf_X_52 hF hT hK hP x0 rfl d_X_tellRow_29 ?_
  refine lv_iload hx hb d_X_tellRow_32 (lv_at hl 0 rfl) ?_
  refine lv_iconst (v := nI 2) hx hb d_X_tellRow_34 (by decide) ?_
  refine lv_iadd hx hb d_X_tellRow_35 ?_
  refine gx_i (y := nI ((3 * m1) + 2)) (nI_add _ _) ?_
  refine lv_lload_n hx hb d_X_tellRow_36 rfl (lv_at hl 4 rfl) ?_
  refine g_last (t0 := 0) (k := (3 * m1) + 2) hx hb hK hP hD hS xr rfl (by omega) (by omega) d_X_tellRow_37 (fun w H locs xr hf hP hD hS => ?_)
  have x0 := hf.at x0 (by omega)
  have x1 := hf.at x1 (by omega)
  have s0 := hf.at s0 (by omega)
  have sko := hf.at sko (by omega)
  have skc := hf.at skc (by omega)
  have sbo := hf.at sbo (by omega)
  have sbc := hf.at sbc (by omega)
  have lo := hf.at lo (by omega)
  have lc := hf.at lc (by omega)
  have to := hf.at to (by omega)
  have tc := hf.at tc (by omega)
  have xn := hf.at xn (by omega)
  have hX := hX.kept hf (by omega)
  have hfr := hfr.in hf (by omega) (by omega)
  refine lv_aload_n hx hb d_X_tellRow_38 rfl (lv_at hl 1 rfl) ?_
  refine lv_dup hx hb d_X_tellRow_39 rfl ?_
  refine gf_X_55 hF hT hK hP x0 rfl d_X_tellRow_40 ?_
  refine lv_iconst (v := nI 1) hx hb d_X_tellRow_43 (by decide) ?_
  refine lv_iadd hx hb d_X_tellRow_44 ?_
  refine gx_i (y := nI (m1 + 1)) (nI_add _ _) ?_
  refine gp_X_55 hF hT hK hP hD hS (fs1 := [.int (nI N), .int (nI (2 * N)), .ref (A 1), .ref (xmd A 0), .ref (A 47), .ref (A 49), .ref (A 51), .ref (A 52), .int (nI (m1 + 1))]) x0 rfl rfl (Nat.le_of_ble_eq_true rfl) rfl d_X_tellRow_45 (fun w H locs x0 hf hP hD hS => ?_)
  have x1 := hf.at x1 (by omega)
  have s0 := hf.at s0 (by omega)
  have sko := hf.at sko (by omega)
  have skc := hf.at skc (by omega)
  have sbo := hf.at sbo (by omega)
  have sbc := hf.at sbc (by omega)
  have lo := hf.at lo (by omega)
  have lc := hf.at lc (by omega)
  have to := hf.at to (by omega)
  have tc := hf.at tc (by omega)
  have xn := hf.at xn (by omega)
  have xr := hf.at xr (by omega)
  have hX := hX.kept hf (by omega)
  have hfr := hfr.in hf (by omega) (by omega)
  exact gw_vret hx hb hr hlocks hK hP hD hS (Nat.le_of_ble_eq_true rfl) (Nat.le_of_ble_eq_true rfl) d_X_tellRow_48 ⟨⟨x0, x1, hsf, hX, ⟨s0, ⟨sko, skc⟩, ⟨sbo, sbc⟩⟩, ⟨lo, lc⟩, ⟨to, tc⟩, xn, xr⟩, hfr⟩

set_option maxHeartbeats 4000000 in
set_option maxRecDepth 100000 in
theorem c_X_placeOfNextName {l : Launch} {D : va_G} {cJ cI cZ cS : ClassId} {ws : va_W} {sz : Nat} {i : Nat} (hi : i < 10) : Met l y_X_placeOfNextName w_X_placeOfNextName ({ frames := 1, cells := 0, slots := 0, locals := 0 } : Room) (gw_Pc D classes (gT cJ cI cZ cS) [.int (nI i)] ws sz) (va_Qi (fun r w => (r = nI (lr_nx i)) ∧ w = ws) (gw_B D classes (gT cJ cI cZ cS) ws sz) (va_A ws sz)) 0 0 (va_A ws sz) := by
  refine gw_head (by decide) (Nat.le_of_ble_eq_true rfl) (fun p e s m below meth c hsz hx hb hr hlocks hml hown hnm hts hK hN hP hD hS hA ls hl => ?_)
  have hown : s.vm.findClass R_X = some m.cls := hown
  have hT : ∀ w ∈ wG, w ∈ Cond.code y_X_placeOfNextName b_X_placeOfNextName 1 (some .int) :: wG := gd_t _
  have hF : CallFix p m c b_X_placeOfNextName 1 s ([.int (nI i)] : List Value).toArray (Cond.code y_X_placeOfNextName b_X_placeOfNextName 1 (some .int) :: wG) R_X := ⟨hx, hb, hml, hown, hts⟩
  have hl : lv_has ls 1 [(0, .int (nI i))] := hl
  refine lv_iload_n hx hb d_X_placeOfNextName_0 rfl (lv_at hl 0 rfl) ?_
  refine lv_iconst (v := nI 1) hx hb d_X_placeOfNextName_1 (by decide) ?_
  refine lv_ior hx hb d_X_placeOfNextName_2 ?_
  refine gx_i (y := nI (lr_nx i - 1)) (lr_nx_or hi) ?_
  refine lv_iconst (v := nI 1) hx hb d_X_placeOfNextName_3 (by decide) ?_
  refine lv_iadd hx hb d_X_placeOfNextName_4 ?_
  refine gx_i (y := nI (lr_nx i)) (lr_nx_1 i) ?_
  exact gw_iret hx hb hr hlocks hK hP hD hS (Nat.le_of_ble_eq_true rfl) (Nat.le_of_ble_eq_true rfl) d_X_placeOfNextName_5 ⟨rfl, rfl⟩

set_option maxHeartbeats 4000000 in
set_option maxRecDepth 100000 in
theorem c_X_leaveOutUnlessNeeded {l : Launch} {D : va_G} {cJ cI cZ cS : ClassId} {ws : va_W} {sz : Nat} {b N : Nat} {A : Nat → Nat} {sf : Nat → Option Nat} {K B : Nat → Nat → Int64} {E : Nat → Int32} {Km Bm : Nat → Int64} {Em : Int32} {Lf Tr nu ne : Nat → Int64} {ct : Int32} (hx0 : xAt cJ cS ws b A N sf K B E Km Bm Em Lf Tr nu ne ct) (hN1 : 1 ≤ N) (hN5 : N ≤ 5) {i k : Nat} (hi : i < 2 * N) (hk : k < 2 * N) : Met l y_X_leaveOutUnlessNeeded w_X_leaveOutUnlessNeeded ({ frames := 5, cells := 0, slots := 0, locals := 91 } : Room) (gw_Pc D classes (gT cJ cI cZ cS) [.ref (A 0), .int (nI i), .int (nI k)] ws sz) (va_Qv (fun w => (∃ L2 T2, lr_leaO Lf Tr (2 * N) i k L2 ∧ xAt cJ cS w b A N sf K B E Km Bm Em L2 T2 nu ne ct) ∧ gF b (b + 53) ws w) (gw_B D classes (gT cJ cI cZ cS) ws sz) (va_A ws sz)) 0 0 (va_A ws sz) := by
  refine gw_head (by decide) (Nat.le_of_ble_eq_true rfl) (fun p e s m below meth c hsz hx hb hr hlocks hml hown hnm hts hK hN hP hD hS hA ls hl => ?_)
  have hown : s.vm.findClass R_X = some m.cls := hown
  have hT : ∀ w ∈ wG, w ∈ Cond.code y_X_leaveOutUnlessNeeded b_X_leaveOutUnlessNeeded 5 none :: wG := gd_t _
  have hF : CallFix p m c b_X_leaveOutUnlessNeeded 5 s ([.ref (A 0), .int (nI i), .int (nI k)] : List Value).toArray (Cond.code y_X_leaveOutUnlessNeeded b_X_leaveOutUnlessNeeded 5 none :: wG) R_X := ⟨hx, hb, hml, hown, hts⟩
  have hl : lv_has ls 5 [(0, .ref (A 0)), (1, .int (nI i)), (2, .int (nI k))] := hl
  obtain ⟨x0, x1, hsf, hX, ⟨s0, ⟨sko, skc⟩, ⟨sbo, sbc⟩⟩, ⟨lo, lc⟩, ⟨to, tc⟩, xn, xr⟩ := hx0
  have hn : 2 * N ≤ 10 := by omega
  have he : 2 * N % 2 = 0 := by omega
  have hfr : gF b (b + 53) ws ws := gF.rf
  refine lv_aload_n hx hb d_X_leaveOutUnlessNeeded_0 rfl (lv_at hl 0 rfl) ?_
  refine gf_X_41 hF hT hK hP x0 rfl d_X_leaveOutUnlessNeeded_1 ?_
  refine lv_iload_n hx hb d_X_leaveOutUnlessNeeded_4 rfl (lv_at hl 1 rfl) ?_
  refine lv_iload_n hx hb d_X_leaveOutUnlessNeeded_5 rfl (lv_at hl 2 rfl) ?_
  refine gw_cl0 (gc_X_138 (As := [.int (nI i), .int (nI k)]) (rest := []) hF hT (c_T_at ⟨lo, lc⟩ hn (by omega) (by omega)) ⟨(Nat.le_of_ble_eq_true rfl), (Nat.le_of_ble_eq_true rfl)⟩ rfl rfl hK hN hP hD lo rfl hl.1 rfl (Nat.le_of_ble_eq_true rfl) d_X_leaveOutUnlessNeeded_6 ⟨(Nat.le_of_ble_eq_true rfl), (Nat.le_of_ble_eq_true rfl)⟩) hD hS hA (fun r1 H locs e_r1 hP hD hS => ?_)
  subst e_r1
  refine lv_lstore_n (lv' := [(3, .long (Lf (i * (2 * N) + k))), (0, .ref (A 0)), (1, .int (nI i)), (2, .int (nI k))]) hx hb d_X_leaveOutUnlessNeeded_9 rfl hl (by decide) rfl (fun ls hl => ?_)
  refine lv_lload_n hx hb d_X_leaveOutUnlessNeeded_10 rfl (lv_at hl 0 rfl) ?_
  refine lv_ldc2 (v := lr_E) hx hb hown (hts _ (hT _ wm_2_61)) d_X_leaveOutUnlessNeeded_11 ?_
  refine gx_lne (tgt := 19) hx hb d_X_leaveOutUnlessNeeded_14 d_X_leaveOutUnlessNeeded_15 (by decide) (fun c2 => ?_) (fun c2 => ?_)
  · refine lv_aload_n hx hb d_X_leaveOutUnlessNeeded_19 rfl (lv_at hl 1 rfl) ?_
    refine gf_X_41 hF hT hK hP x0 rfl d_X_leaveOutUnlessNeeded_20 ?_
    refine lv_iload_n hx hb d_X_leaveOutUnlessNeeded_23 rfl (lv_at hl 2 rfl) ?_
    refine lv_iload_n hx hb d_X_leaveOutUnlessNeeded_24 rfl (lv_at hl 3 rfl) ?_
    refine lv_ldc2 (v := lr_E) hx hb hown (hts _ (hT _ wm_2_61)) d_X_leaveOutUnlessNeeded_25 ?_
    refine gw_cv (gc_X_235 (As := [.int (nI i), .int (nI k), .long lr_E]) (rest := []) hF hT (c_T_store ⟨lo, lc⟩ hn (by omega) (by omega)) ⟨(Nat.le_of_ble_eq_true rfl), (Nat.le_of_ble_eq_true rfl)⟩ rfl rfl hK hN hP hD lo rfl hl.1 rfl (Nat.le_of_ble_eq_true rfl) d_X_leaveOutUnlessNeeded_28 ⟨(Nat.le_of_ble_eq_true rfl), (Nat.le_of_ble_eq_true rfl)⟩) hD hS hA (fun w H locs hw hP hD hS => ?_)
    obtain ⟨⟨lo, lc⟩, hf⟩ := hw
    have x0 := hf.at x0 (by omega)
    have x1 := hf.at x1 (by omega)
    have s0 := hf.at s0 (by omega)
    have sko := hf.at sko (by omega)
    have skc := hf.at skc (by omega)
    have sbo := hf.at sbo (by omega)
    have sbc := hf.at sbc (by omega)
    have to := hf.at to (by omega)
    have tc := hf.at tc (by omega)
    have xn := hf.at xn (by omega)
    have xr := hf.at xr (by omega)
    have hX := hX.kept hf (by omega)
    have hfr := hfr.in hf (by omega) (by omega)
    refine lv_aload_n hx hb d_X_leaveOutUnlessNeeded_31 rfl (lv_at hl 1 rfl) ?_
    refine gf_X_45 hF hT hK hP x0 rfl d_X_leaveOutUnlessNeeded_32 ?_
    refine lv_aload_n hx hb d_X_leaveOutUnlessNeeded_35 rfl (lv_at hl 1 rfl) ?_
    refine gf_X_41 hF hT hK hP x0 rfl d_X_leaveOutUnlessNeeded_36 ?_
    refine gw_cv (gc_X_150 (As := [.ref (A 47)]) (rest := []) hF hT (c_T_takeFrom ⟨to, tc⟩ hn ⟨lo, lc⟩) ⟨(Nat.le_of_ble_eq_true rfl), (Nat.le_of_ble_eq_true rfl)⟩ rfl rfl hK hN hP hD to rfl hl.1 rfl (Nat.le_of_ble_eq_true rfl) d_X_leaveOutUnlessNeeded_39 ⟨(Nat.le_of_ble_eq_true rfl), (Nat.le_of_ble_eq_true rfl)⟩) hD hS hA (fun w H locs hw hP hD hS => ?_)
    obtain ⟨⟨to, tc⟩, hf⟩ := hw
    have x0 := hf.at x0 (by omega)
    have x1 := hf.at x1 (by omega)
    have s0 := hf.at s0 (by omega)
    have sko := hf.at sko (by omega)
    have skc := hf.at skc (by omega)
    have sbo := hf.at sbo (by omega)
    have sbc := hf.at sbc (by omega)
    have lo := hf.at lo (by omega)
    have lc := hf.at lc (by omega)
    have xn := hf.at xn (by omega)
    have xr := hf.at xr (by omega)
    have hX := hX.kept hf (by omega)
    have hfr := hfr.in hf (by omega) (by omega)
    refine lv_aload_n hx hb d_X_leaveOutUnlessNeeded_42 rfl (lv_at hl 1 rfl) ?_
    refine gf_X_45 hF hT hK hP x0 rfl d_X_leaveOutUnlessNeeded_43 ?_
    refine gw_ci (gc_X_183 (As := []) (rest := []) hF hT (c_T_close ⟨to, tc⟩ hn he) ⟨(Nat.le_of_ble_eq_true rfl), (Nat.le_of_ble_eq_true rfl)⟩ rfl rfl hK hN hP hD to rfl hl.1 rfl (Nat.le_of_ble_eq_true rfl) d_X_leaveOutUnlessNeeded_46 ⟨(Nat.le_of_ble_eq_true rfl), (Nat.le_of_ble_eq_true rfl)⟩) hD hS hA (fun r3 w H locs hw hP hD hS => ?_)
    obtain ⟨hw, hf⟩ := hw
    obtain ⟨F4, h_r3, ⟨to, tc⟩⟩ := lr_clW hw
    have x0 := hf.at x0 (by omega)
    have x1 := hf.at x1 (by omega)
    have s0 := hf.at s0 (by omega)
    have sko := hf.at sko (by omega)
    have skc := hf.at skc (by omega)
    have sbo := hf.at sbo (by omega)
    have sbc := hf.at sbc (by omega)
    have lo := hf.at lo (by omega)
    have lc := hf.at lc (by omega)
    have xn := hf.at xn (by omega)
    have xr := hf.at xr (by omega)
    have hX := hX.kept hf (by omega)
    have hfr := hfr.in hf (by omega) (by omega)
    refine lv_if_eq (tgt := 76) hx hb d_X_leaveOutUnlessNeeded_49 (by decide) (fun c5 => ?_) (fun c5 => ?_)
    · exact gw_vret hx hb hr hlocks hK hP hD hS (Nat.le_of_ble_eq_true rfl) (Nat.le_of_ble_eq_true rfl) d_X_leaveOutUnlessNeeded_76 ⟨⟨_, _, Or.inr ⟨c2, Or.inr ⟨fun q => gq_t h_r3 c5 q.1, rfl⟩⟩, ⟨x0, x1, hsf, hX, ⟨s0, ⟨sko, skc⟩, ⟨sbo, sbc⟩⟩, ⟨lo, lc⟩, ⟨to, tc⟩, xn, xr⟩⟩, hfr⟩
    · refine lv_aload_n hx hb d_X_leaveOutUnlessNeeded_52 rfl (lv_at hl 1 rfl) ?_
      refine gf_X_45 hF hT hK hP x0 rfl d_X_leaveOutUnlessNeeded_53 ?_
      refine lv_iload_n hx hb d_X_leaveOutUnlessNeeded_56 rfl (lv_at hl 2 rfl) ?_
      refine lv_iload_n hx hb d_X_leaveOutUnlessNeeded_57 rfl (lv_at hl 3 rfl) ?_
      refine gw_cl0 (gc_X_138 (As := [.int (nI i), .int (nI k)]) (rest := []) hF hT (c_T_at ⟨to, tc⟩ hn (by omega) (by omega)) ⟨(Nat.le_of_ble_eq_true rfl), (Nat.le_of_ble_eq_true rfl)⟩ rfl rfl hK hN hP hD to rfl hl.1 rfl (Nat.le_of_ble_eq_true rfl) d_X_leaveOutUnlessNeeded_58 ⟨(Nat.le_of_ble_eq_true rfl), (Nat.le_of_ble_eq_true rfl)⟩) hD hS hA (fun r6 H locs e_r6 hP hD hS => ?_)
      subst e_r6
      refine lv_lload_n hx hb d_X_leaveOutUnlessNeeded_61 rfl (lv_at hl 0 rfl) ?_
      refine gx_lle (tgt := 76) hx hb d_X_leaveOutUnlessNeeded_62 d_X_leaveOutUnlessNeeded_63 (by decide) (fun c7 => ?_) (fun c7 => ?_)
      · exact gw_vret hx hb hr hlocks hK hP hD hS (Nat.le_of_ble_eq_true rfl) (Nat.le_of_ble_eq_true rfl) d_X_leaveOutUnlessNeeded_76 ⟨⟨_, _, Or.inr ⟨c2, Or.inr ⟨fun q => q.2 (by rw [← gq_q h_r3 c5]; exact c7), rfl⟩⟩, ⟨x0, x1, hsf, hX, ⟨s0, ⟨sko, skc⟩, ⟨sbo, sbc⟩⟩, ⟨lo, lc⟩, ⟨to, tc⟩, xn, xr⟩⟩, hfr⟩
      · refine lv_aload_n hx hb d_X_leaveOutUnlessNeeded_66 rfl (lv_at hl 1 rfl) ?_
        refine gf_X_41 hF hT hK hP x0 rfl d_X_leaveOutUnlessNeeded_67 ?_
        refine lv_iload_n hx hb d_X_leaveOutUnlessNeeded_70 rfl (lv_at hl 2 rfl) ?_
        refine lv_iload_n hx hb d_X_leaveOutUnlessNeeded_71 rfl (lv_at hl 3 rfl) ?_
        refine lv_lload_n hx hb d_X_leaveOutUnlessNeeded_72 rfl (lv_at hl 0 rfl) ?_
        refine gw_cv (gc_X_235 (As := [.int (nI i), .int (nI k), .long (Lf (i * (2 * N) + k))]) (rest := []) hF hT (c_T_store ⟨lo, lc⟩ hn (by omega) (by omega)) ⟨(Nat.le_of_ble_eq_true rfl), (Nat.le_of_ble_eq_true rfl)⟩ rfl rfl hK hN hP hD lo rfl hl.1 rfl (Nat.le_of_ble_eq_true rfl) d_X_leaveOutUnlessNeeded_73 ⟨(Nat.le_of_ble_eq_true rfl), (Nat.le_of_ble_eq_true rfl)⟩) hD hS hA (fun w H locs hw hP hD hS => ?_)
        obtain ⟨⟨lo, lc⟩, hf⟩ := hw
        have x0 := hf.at x0 (by omega)
        have x1 := hf.at x1 (by omega)
        have s0 := hf.at s0 (by omega)
        have sko := hf.at sko (by omega)
        have skc := hf.at skc (by omega)
        have sbo := hf.at sbo (by omega)
        have sbc := hf.at sbc (by omega)
        have to := hf.at to (by omega)
        have tc := hf.at tc (by omega)
        have xn := hf.at xn (by omega)
        have xr := hf.at xr (by omega)
        have hX := hX.kept hf (by omega)
        have hfr := hfr.in hf (by omega) (by omega)
        exact gw_vret hx hb hr hlocks hK hP hD hS (Nat.le_of_ble_eq_true rfl) (Nat.le_of_ble_eq_true rfl) d_X_leaveOutUnlessNeeded_76 ⟨⟨_, _, Or.inr ⟨c2, Or.inl ⟨⟨gq_f h_r3 c5, fun q => c7 (by rw [gq_q h_r3 c5]; exact q)⟩, rfl⟩⟩, ⟨x0, x1, hsf, hX, ⟨s0, ⟨sko, skc⟩, ⟨sbo, sbc⟩⟩, ⟨lo, lc⟩, ⟨to, tc⟩, xn, xr⟩⟩, hfr⟩
  · exact gw_vret hx hb hr hlocks hK hP hD hS (Nat.le_of_ble_eq_true rfl) (Nat.le_of_ble_eq_true rfl) d_X_leaveOutUnlessNeeded_18 ⟨⟨_, _, Or.inl ⟨c2, rfl⟩, ⟨x0, x1, hsf, hX, ⟨s0, ⟨sko, skc⟩, ⟨sbo, sbc⟩⟩, ⟨lo, lc⟩, ⟨to, tc⟩, xn, xr⟩⟩, hfr⟩

set_option maxHeartbeats 4000000 in
set_option maxRecDepth 100000 in
theorem c_X_leaveOutSingles {l : Launch} {D : va_G} {cJ cI cZ cS : ClassId} {ws : va_W} {sz : Nat} {b N : Nat} {A : Nat → Nat} {sf : Nat → Option Nat} {K B : Nat → Nat → Int64} {E : Nat → Int32} {Km Bm : Nat → Int64} {Em : Int32} {Lf Tr nu ne : Nat → Int64} {ct : Int32} (hx0 : xAt cJ cS ws b A N sf K B E Km Bm Em Lf Tr nu ne ct) (hN1 : 1 ≤ N) (hN5 : N ≤ 5) : Met l y_X_leaveOutSingles w_X_leaveOutSingles ({ frames := 6, cells := 0, slots := 0, locals := 115 } : Room) (gw_Pc D classes (gT cJ cI cZ cS) [.ref (A 0)] ws sz) (va_Qv (fun w => (∃ L2 T2, lr_lvS (2 * N) (2 * N) Lf L2 ∧ xAt cJ cS w b A N sf K B E Km Bm Em L2 T2 nu ne ct) ∧ gF b (b + 53) ws w) (gw_B D classes (gT cJ cI cZ cS) ws sz) (va_A ws sz)) 0 0 (va_A ws sz) := by
  refine gw_head (by decide) (Nat.le_of_ble_eq_true rfl) (fun p e s m below meth c hsz hx hb hr hlocks hml hown hnm hts hK hN hP hD hS hA ls hl => ?_)
  have hown : s.vm.findClass R_X = some m.cls := hown
  have hT : ∀ w ∈ wG, w ∈ Cond.code y_X_leaveOutSingles b_X_leaveOutSingles 2 none :: wG := gd_t _
  have hF : CallFix p m c b_X_leaveOutSingles 2 s ([.ref (A 0)] : List Value).toArray (Cond.code y_X_leaveOutSingles b_X_leaveOutSingles 2 none :: wG) R_X := ⟨hx, hb, hml, hown, hts⟩
  have hl : lv_has ls 2 [(0, .ref (A 0))] := hl
  obtain ⟨x0, x1, hsf, hX, ⟨s0, ⟨sko, skc⟩, ⟨sbo, sbc⟩⟩, ⟨lo, lc⟩, ⟨to, tc⟩, xn, xr⟩ := hx0
  have hn : 2 * N ≤ 10 := by omega
  have he : 2 * N % 2 = 0 := by omega
  have hfr : gF b (b + 53) ws ws := gF.rf
  refine lv_aload_n hx hb d_X_leaveOutSingles_0 rfl (lv_at hl 0 rfl) ?_
  refine gf_X_22 hF hT hK hP x0 rfl d_X_leaveOutSingles_1 ?_
  refine lv_iconst (v := nI 1) hx hb d_X_leaveOutSingles_4 (by decide) ?_
  refine lv_isub hx hb d_X_leaveOutSingles_5 ?_
  refine gx_i (y := nI (2 * N) - nI (0 + 1)) rfl ?_
  refine lv_istore_n (lv' := [(1, .int (nI (2 * N) - nI (0 + 1))), (0, .ref (A 0))]) hx hb d_X_leaveOutSingles_6 rfl hl (by decide) rfl (fun ls hl => ?_)
  have lp_7 : ∀ (dd t : Nat), t + dd = (2 * N) → ∀ (w : va_W) (H : Heap) (locs : List Loc) (ls : Array Slot) (L1 T1 : Nat → Int64), w[b]? = some (A 0, .inr (2, [.int (nI N), .int (nI (2 * N)), .ref (A 1), .ref (xmd A 0), .ref (A 47), .ref (A 49), .ref (A 51), .ref (A 52), .int ct])) → w[b + 1]? = some (A 1, .inl (cS, 8, .inr (.inr (.inr (.inr sf))))) → w[b + 42]? = some (xmd A 0, .inr (1, [.int (nI (2 * N)), .ref (xmd A 1), .ref (xmd A 3), .int Em])) → w[b + 42 + 1]? = some (xmd A 1, .inr (0, [.int (nI (2 * N)), .ref (xmd A 2)])) → w[b + 42 + 1 + 1]? = some (xmd A 2, .inl (cJ, (2 * N) * (2 * N), .inr (.inl Km))) → w[b + 42 + 3]? = some (xmd A 3, .inr (0, [.int (nI (2 * N)), .ref (xmd A 4)])) → w[b + 42 + 3 + 1]? = some (xmd A 4, .inl (cJ, (2 * N) * (2 * N), .inr (.inl Bm))) → w[b + 47]? = some (A 47, .inr (0, [.int (nI (2 * N)), .ref (A 48)])) → w[b + 47 + 1]? = some (A 48, .inl (cJ, (2 * N) * (2 * N), .inr (.inl L1))) → w[b + 49]? = some (A 49, .inr (0, [.int (nI (2 * N)), .ref (A 50)])) → w[b + 49 + 1]? = some (A 50, .inl (cJ, (2 * N) * (2 * N), .inr (.inl T1))) → w[b + 51]? = some (A 51, .inl (cJ, N, .inr (.inl nu))) → w[b + 52]? = some (A 52, .inl (cJ, 6 * (N * N), .inr (.inl ne))) → xFam cJ w b A (2 * N) K B E → lr_lvS (2 * N) t Lf L1 → gF b (b + 53) ws w → va_P D classes w H → va_D (va_A ws sz) w → va_S (va_A ws sz) s.heap H locs → lv_has ls 2 [(1, .int (nI (2 * N) - nI (t + 1))), (0, .ref (A 0))] → W p l e ({ frames := 6, cells := 0, slots := 0, locals := 115 } : Room) s m ([.ref (A 0)] : List Value).toArray below meth c H locs 0 0 (MQ below (va_Qv (fun w => (∃ L2 T2, lr_lvS (2 * N) (2 * N) Lf L2 ∧ xAt cJ cS w b A N sf K B E Km Bm Em L2 T2 nu ne ct) ∧ gF b (b + 53) ws w) (gw_B D classes (gT cJ cI cZ cS) ws sz) (va_A ws sz)) ([.ref (A 0)] : List Value).toArray s 0 0 (va_A ws sz)) (F0 m 7 ls []) := by
    intro dd
    induction dd with
    | zero =>
      intro t e_t w H locs ls L1 T1 x0 x1 s0 sko skc sbo sbc lo lc to tc xn xr hX hr1 hfr hP hD hS hl
      have e0_t : (2 * N) = t := by omega
      subst e0_t
      refine lv_iload_n hx hb d_X_leaveOutSingles_7 rfl (lv_at hl 0 rfl) ?_
      refine lv_if_lt (tgt := 23) hx hb d_X_leaveOutSingles_8 (by decide) (fun c1 => ?_) (fun c1 => ?_)
      · exact gw_vret hx hb hr hlocks hK hP hD hS (Nat.le_of_ble_eq_true rfl) (Nat.le_of_ble_eq_true rfl) d_X_leaveOutSingles_23 ⟨⟨_, _, hr1, ⟨x0, x1, hsf, hX, ⟨s0, ⟨sko, skc⟩, ⟨sbo, sbc⟩⟩, ⟨lo, lc⟩, ⟨to, tc⟩, xn, xr⟩⟩, hfr⟩
      · exact absurd (pk_sneg (by omega) (by omega)) c1
    | succ dd ih_7 =>
      intro t e_t w H locs ls L1 T1 x0 x1 s0 sko skc sbo sbc lo lc to tc xn xr hX hr1 hfr hP hD hS hl
      rw [pk_sub (by omega)] at hl
      refine lv_iload_n hx hb d_X_leaveOutSingles_7 rfl (lv_at hl 0 rfl) ?_
      refine lv_if_lt (tgt := 23) hx hb d_X_leaveOutSingles_8 (by decide) (fun c2 => ?_) (fun c2 => ?_)
      · have c2 := (nI_ltI (a := (2 * N - (t + 1))) (b := 0) (by omega) (by omega)).mp c2
        exfalso; omega
      · have c2 : ¬ (2 * N - (t + 1) < 0) := fun z => c2 ((nI_ltI (a := (2 * N - (t + 1))) (b := 0) (by omega) (by omega)).mpr z)
        refine lv_aload_n hx hb d_X_leaveOutSingles_11 rfl (lv_at hl 1 rfl) ?_
        refine lv_iload_n hx hb d_X_leaveOutSingles_12 rfl (lv_at hl 0 rfl) ?_
        refine lv_iload_n hx hb d_X_leaveOutSingles_13 rfl (lv_at hl 0 rfl) ?_
        refine gw_cv (gc_X_231 (As := [.int (nI (2 * N - (t + 1))), .int (nI (2 * N - (t + 1)))]) (rest := []) hF hT (c_X_leaveOutUnlessNeeded ⟨x0, x1, hsf, hX, ⟨s0, ⟨sko, skc⟩, ⟨sbo, sbc⟩⟩, ⟨lo, lc⟩, ⟨to, tc⟩, xn, xr⟩ hN1 hN5 (i := 2 * N - (t + 1)) (k := 2 * N - (t + 1)) (by omega) (by omega)) ⟨(Nat.le_of_ble_eq_true rfl), (Nat.le_of_ble_eq_true rfl)⟩ rfl rfl hK hN hP hD x0 rfl hl.1 rfl (Nat.le_of_ble_eq_true rfl) d_X_leaveOutSingles_14 ⟨(Nat.le_of_ble_eq_true rfl), (Nat.le_of_ble_eq_true rfl)⟩) hD hS hA (fun w H locs hw hP hD hS => ?_)
        obtain ⟨⟨L3, T3, o3, x0, x1, hsf, hX, ⟨s0, ⟨sko, skc⟩, ⟨sbo, sbc⟩⟩, ⟨lo, lc⟩, ⟨to, tc⟩, xn, xr⟩, hf⟩ := hw
        have hfr := hfr.in hf (by omega) (by omega)
        refine lv_iinc (v := nI (2 * N) - nI (t + 1 + 1)) (lv' := [(1, .int (nI (2 * N) - nI (t + 1 + 1))), (0, .ref (A 0))]) hx hb d_X_leaveOutSingles_17 hl (k := 0) rfl (gx_dec (by omega) (by omega)) (by decide) rfl (fun ls hl => ?_)
        refine lv_goto (tgt := 7) hx hb d_X_leaveOutSingles_20 (by decide) ?_
        exact ih_7 (t + 1) (by omega) _ _ _ _ _ _ x0 x1 s0 sko skc sbo sbc lo lc to tc xn xr hX ⟨_, hr1, _, o3⟩ hfr hP hD hS (lv_sub hl [0, 1] rfl)
  exact lp_7 (2 * N) 0 (by omega) _ _ _ _ _ _ x0 x1 s0 sko skc sbo sbc lo lc to tc xn xr hX rfl hfr hP hD hS (lv_sub hl [0, 1] rfl)
