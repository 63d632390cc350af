set_option maxHeartbeats 4000000 in
set_option maxRecDepth 100000 in
theorem c_X_array {l : Launch} (hlt : l.stackTraces = false) {D : va_G} {cJ cI cZ cS : ClassId} {ws : va_W} {sz base : Nat} {b N : Nat} {A : Nat → Nat} {sf : Nat → Option Nat} {K B : Nat → Nat → Int64} {E : Nat → Int32} {Km Bm : Nat → Int64} {Em : Int32} {Lf Tr nu ne : Nat → Int64} {ct : Int32} (hx0 : xAt cJ cS ws b A N sf K B E Km Bm Em Lf Tr nu ne ct) (hN1 : 1 ≤ N) (hN5 : N ≤ 5) (hEm : Em = 0 ∨ Em = 1) {x y z : Int32} : vx_Met l y_X_array w_X_array ({ frames := 7, cells := 4, slots := 24, locals := 111 } : Room) (gx_Pc D classes (gT cJ cI cZ cS) [.ref (A 0), .int x, .int y, .int z] ws sz base) (va_Qi (fun r w => (okS x ∧ okN N y ∧ okN N z ∧ ¬ y = z) ∧ ∃ k, k < 8 ∧ x = nI k ∧ ∃ Tr2, lr_arO (B k) (E k) Tr (2 * N) y z r ∧ xAt cJ cS w b A N sf K B E Km Bm Em Lf Tr2 nu ne ct ∧ gF b (b + 53) ws w) (gw_B D classes (gT cJ cI cZ cS) ws sz) (va_A ws sz)) (gX D classes (gT cJ cI cZ cS) ws sz (fun Z w => Z = xIOOB ∧ ¬ (okS x ∧ okN N y ∧ okN N z ∧ ¬ y = z) ∧ w = ws)) 4 24 (va_A ws sz) := by
  refine gx_head (by decide) (Nat.le_of_ble_eq_true rfl) (fun p e s m below meth c hsz hx hb hr hlocks hml hown hnm hts hK hN hP hD hS hA hB hE hno ls hl => ?_)
  have hown : s.vm.findClass R_X = some m.cls := hown
  have hT : ∀ w ∈ wG, w ∈ Cond.code y_X_array b_X_array 5 (some .int) :: wG := gd_t _
  have hF : CallFix p m c b_X_array 5 s ([.ref (A 0), .int x, .int y, .int z] : List Value).toArray (Cond.code y_X_array b_X_array 5 (some .int) :: wG) R_X := ⟨hx, hb, hml, hown, hts⟩
  have hl : lv_has ls 5 [(0, .ref (A 0)), (1, .int x), (2, .int y), (3, .int z)] := hl
  obtain ⟨x0, x1, hsf, hX, ⟨s0, ⟨sko, skc⟩, ⟨sbo, sbc⟩⟩, ⟨lo, lc⟩, ⟨to, tc⟩, xn, xr⟩ := hx0
  have hn : 2 * N ≤ 10 := by omega
  have he : 2 * N % 2 = 0 := by omega
  have hfr : gF b (b + 53) ws ws := gF.rf
  refine lv_iload_n hx hb d_X_array_0 rfl (lv_at hl 1 rfl) ?_
  refine gx_cv0 (gxc_X_58 (As := [.int x]) (rest := []) hF hT (c_X_checkShape hlt) ⟨(Nat.le_of_ble_eq_true rfl), (Nat.le_of_ble_eq_true rfl)⟩ rfl rfl (gx_pre hK hN hP hD hS hB hA hE) rfl hl.1 rfl (Nat.le_of_ble_eq_true rfl) d_X_array_1 ⟨(Nat.le_of_ble_eq_true rfl), (Nat.le_of_ble_eq_true rfl)⟩) hK hD hS hA hno hlocks (Nat.le_of_ble_eq_true rfl) (Nat.le_of_ble_eq_true rfl) (fun Z u q => by obtain ⟨q1, q2, q3⟩ := q; exact ⟨q1, fun q => q2 q.1, q3⟩) (fun H locs h1 hP hD hS => ?_)
  obtain ⟨k, hk, rfl⟩ := h1.k
  refine lv_aload_n hx hb d_X_array_4 rfl (lv_at hl 0 rfl) ?_
  refine lv_iload_n hx hb d_X_array_5 rfl (lv_at hl 2 rfl) ?_
  refine gx_cv0 (gxc_X_112 (As := [.int y]) (rest := []) hF hT (c_X_checkName hlt ⟨x0, x1, hsf, hX, ⟨s0, ⟨sko, skc⟩, ⟨sbo, sbc⟩⟩, ⟨lo, lc⟩, ⟨to, tc⟩, xn, xr⟩ hN1 hN5) ⟨(Nat.le_of_ble_eq_true rfl), (Nat.le_of_ble_eq_true rfl)⟩ rfl rfl (gx_pre hK hN hP hD hS hB hA hE) hK hP x0 rfl hl.1 rfl (Nat.le_of_ble_eq_true rfl) d_X_array_6 ⟨(Nat.le_of_ble_eq_true rfl), (Nat.le_of_ble_eq_true rfl)⟩) hK hD hS hA hno hlocks (Nat.le_of_ble_eq_true rfl) (Nat.le_of_ble_eq_true rfl) (fun Z u q => by obtain ⟨q1, q2, q3⟩ := q; exact ⟨q1, fun q => q2 q.2.1, q3⟩) (fun H locs h2 hP hD hS => ?_)
  refine lv_aload_n hx hb d_X_array_9 rfl (lv_at hl 0 rfl) ?_
  refine lv_iload_n hx hb d_X_array_10 rfl (lv_at hl 3 rfl) ?_
  refine gx_cv0 (gxc_X_112 (As := [.int z]) (rest := []) hF hT (c_X_checkName hlt ⟨x0, x1, hsf, hX, ⟨s0, ⟨sko, skc⟩, ⟨sbo, sbc⟩⟩, ⟨lo, lc⟩, ⟨to, tc⟩, xn, xr⟩ hN1 hN5) ⟨(Nat.le_of_ble_eq_true rfl), (Nat.le_of_ble_eq_true rfl)⟩ rfl rfl (gx_pre hK hN hP hD hS hB hA hE) hK hP x0 rfl hl.1 rfl (Nat.le_of_ble_eq_true rfl) d_X_array_11 ⟨(Nat.le_of_ble_eq_true rfl), (Nat.le_of_ble_eq_true rfl)⟩) hK hD hS hA hno hlocks (Nat.le_of_ble_eq_true rfl) (Nat.le_of_ble_eq_true rfl) (fun Z u q => by obtain ⟨q1, q2, q3⟩ := q; exact ⟨q1, fun q => q2 q.2.2.1, q3⟩) (fun H locs h3 hP hD hS => ?_)
  refine lv_iload_n hx hb d_X_array_14 rfl (lv_at hl 2 rfl) ?_
  refine lv_iload_n hx hb d_X_array_15 rfl (lv_at hl 3 rfl) ?_
  refine lv_icmp_ne (tgt := 29) hx hb d_X_array_16 (by decide) (fun c1 => ?_) (fun c1 => ?_)
  · refine lv_aload_n hx hb d_X_array_29 rfl (lv_at hl 0 rfl) ?_
    refine gf_X_27 hF hT hK hP x0 rfl d_X_array_30 ?_
    refine lv_iload_n hx hb d_X_array_33 rfl (lv_at hl 1 rfl) ?_
    refine g_aald (t0 := 3) (k := k) hx hb hK hP x1 rfl (by omega) (by decide) (hsf k (by omega)) d_X_array_34 ?_
    refine lv_astore (lv' := [(4, .ref (xsh A k 0)), (0, .ref (A 0)), (1, .int (nI k)), (2, .int y), (3, .int z)]) hx hb d_X_array_35 hl (by decide) rfl (fun ls hl => ?_)
    refine lv_aload hx hb d_X_array_37 (lv_at hl 0 rfl) ?_
    refine lv_iload_n hx hb d_X_array_39 rfl (lv_at hl 3 rfl) ?_
    refine lv_ineg hx hb d_X_array_40 ?_
    refine lv_iconst (v := nI 0) hx hb d_X_array_41 (by decide) ?_
    refine gw_cl0 (gc_X_83 (As := [.int (-y), .int (nI 0)]) (rest := []) hF hT (c_S_greatest (hX k (by omega)).1 hn he (lr_tm_neg he (h2.tm hN5)) lr_tm0) ⟨(Nat.le_of_ble_eq_true rfl), (Nat.le_of_ble_eq_true rfl)⟩ rfl rfl hK hN hP hD (hX k (by omega)).1.1 rfl hl.1 rfl (Nat.le_of_ble_eq_true rfl) d_X_array_42 ⟨(Nat.le_of_ble_eq_true rfl), (Nat.le_of_ble_eq_true rfl)⟩) hD hS hA (fun r2 H locs e_r2 hP hD hS => ?_)
    subst e_r2
    refine lv_lconst (v := 0) hx hb d_X_array_45 rfl ?_
    refine gx_lgt (tgt := 67) hx hb d_X_array_46 d_X_array_47 (by decide) (fun c3 => ?_) (fun c3 => ?_)
    · refine lv_aload_n hx hb d_X_array_67 rfl (lv_at hl 1 rfl) ?_
      refine gf_X_45 hF hT hK hP x0 rfl d_X_array_68 ?_
      refine lv_aload hx hb d_X_array_71 (lv_at hl 0 rfl) ?_
      refine gf_X_127 hF hT hN hK hP (hX k (by omega)).1.1 rfl d_X_array_73 ?_
      refine gw_cv (gc_X_150 (As := [.ref (xsh A k 3)]) (rest := []) hF hT (c_T_takeFrom ⟨to, tc⟩ hn (hX k (by omega)).1.2.2) ⟨(Nat.le_of_ble_eq_true rfl), (Nat.le_of_ble_eq_true rfl)⟩ rfl rfl hK hN hP hD to rfl hl.1 rfl (Nat.le_of_ble_eq_true rfl) d_X_array_76 ⟨(Nat.le_of_ble_eq_true rfl), (Nat.le_of_ble_eq_true rfl)⟩) hD hS hA (fun w H locs hw hP hD hS => ?_)
      obtain ⟨⟨to, tc⟩, hf⟩ := hw
      have x0 := hf.at x0 (by omega)
      have x1 := hf.at x1 (by omega)
      have s0 := hf.at s0 (by omega)
      have sko := hf.at sko (by omega)
      have skc := hf.at skc (by omega)
      have sbo := hf.at sbo (by omega)
      have sbc := hf.at sbc (by omega)
      have lo := hf.at lo (by omega)
      have lc := hf.at lc (by omega)
      have xn := hf.at xn (by omega)
      have xr := hf.at xr (by omega)
      have hX := hX.kept hf (by omega)
      have hfr := hfr.in hf (by omega) (by omega)
      refine lv_aload_n hx hb d_X_array_79 rfl (lv_at hl 1 rfl) ?_
      refine gf_X_45 hF hT hK hP x0 rfl d_X_array_80 ?_
      refine lv_iload_n hx hb d_X_array_83 rfl (lv_at hl 3 rfl) ?_
      refine lv_ineg hx hb d_X_array_84 ?_
      refine gw_ci0 (gc_X_177 (As := [.int (-y)]) (rest := [.ref (A 49)]) hF hT (c_X_placeOf (neg_small (h2.tm hN5).1) (mz_nz h2.nz)) ⟨(Nat.le_of_ble_eq_true rfl), (Nat.le_of_ble_eq_true rfl)⟩ rfl rfl hK hN hP hD rfl hl.1 rfl (Nat.le_of_ble_eq_true rfl) d_X_array_85 ⟨(Nat.le_of_ble_eq_true rfl), (Nat.le_of_ble_eq_true rfl)⟩) hD hS hA (fun r4 H locs e_r4 hP hD hS => ?_)
      subst e_r4
      refine lv_iload_n hx hb d_X_array_88 rfl (lv_at hl 3 rfl) ?_
      refine lv_ineg hx hb d_X_array_89 ?_
      refine gw_ci0 (gc_X_177 (As := [.int (-y)]) (rest := [.int (nI (lr_pl (-y))), .ref (A 49)]) hF hT (c_X_placeOf (neg_small (h2.tm hN5).1) (mz_nz h2.nz)) ⟨(Nat.le_of_ble_eq_true rfl), (Nat.le_of_ble_eq_true rfl)⟩ rfl rfl hK hN hP hD rfl hl.1 rfl (Nat.le_of_ble_eq_true rfl) d_X_array_90 ⟨(Nat.le_of_ble_eq_true rfl), (Nat.le_of_ble_eq_true rfl)⟩) hD hS hA (fun r5 H locs e_r5 hP hD hS => ?_)
      subst e_r5
      refine lv_lconst (v := 0) hx hb d_X_array_93 rfl ?_
      refine gw_cv (gc_X_180 (As := [.int (nI (lr_pl (-y))), .int (nI (lr_pl (-y))), .long (0 : Int64)]) (rest := []) hF hT (c_T_lowerTo ⟨to, tc⟩ hn ((lr_tm_neg he (h2.tm hN5)).2 (mz_nz h2.nz)) ((lr_tm_neg he (h2.tm hN5)).2 (mz_nz h2.nz))) ⟨(Nat.le_of_ble_eq_true rfl), (Nat.le_of_ble_eq_true rfl)⟩ rfl rfl hK hN hP hD to rfl hl.1 rfl (Nat.le_of_ble_eq_true rfl) d_X_array_94 ⟨(Nat.le_of_ble_eq_true rfl), (Nat.le_of_ble_eq_true rfl)⟩) hD hS hA (fun w H locs hw hP hD hS => ?_)
      obtain ⟨⟨to, tc⟩, hf⟩ := hw
      have x0 := hf.at x0 (by omega)
      have x1 := hf.at x1 (by omega)
      have s0 := hf.at s0 (by omega)
      have sko := hf.at sko (by omega)
      have skc := hf.at skc (by omega)
      have sbo := hf.at sbo (by omega)
      have sbc := hf.at sbc (by omega)
      have lo := hf.at lo (by omega)
      have lc := hf.at lc (by omega)
      have xn := hf.at xn (by omega)
      have xr := hf.at xr (by omega)
      have hX := hX.kept hf (by omega)
      have hfr := hfr.in hf (by omega) (by omega)
      refine lv_aload_n hx hb d_X_array_97 rfl (lv_at hl 1 rfl) ?_
      refine gf_X_45 hF hT hK hP x0 rfl d_X_array_98 ?_
      refine lv_iload_n hx hb d_X_array_101 rfl (lv_at hl 3 rfl) ?_
      refine gw_ci0 (gc_X_177 (As := [.int y]) (rest := [.ref (A 49)]) hF hT (c_X_placeOf (h2.tm hN5).1 h2.nz) ⟨(Nat.le_of_ble_eq_true rfl), (Nat.le_of_ble_eq_true rfl)⟩ rfl rfl hK hN hP hD rfl hl.1 rfl (Nat.le_of_ble_eq_true rfl) d_X_array_102 ⟨(Nat.le_of_ble_eq_true rfl), (Nat.le_of_ble_eq_true rfl)⟩) hD hS hA (fun r6 H locs e_r6 hP hD hS => ?_)
      subst e_r6
      refine lv_iload_n hx hb d_X_array_105 rfl (lv_at hl 4 rfl) ?_
      refine lv_ineg hx hb d_X_array_106 ?_
      refine gw_ci0 (gc_X_177 (As := [.int (-z)]) (rest := [.int (nI (lr_pl y)), .ref (A 49)]) hF hT (c_X_placeOf (neg_small (h3.tm hN5).1) (mz_nz h3.nz)) ⟨(Nat.le_of_ble_eq_true rfl), (Nat.le_of_ble_eq_true rfl)⟩ rfl rfl hK hN hP hD rfl hl.1 rfl (Nat.le_of_ble_eq_true rfl) d_X_array_107 ⟨(Nat.le_of_ble_eq_true rfl), (Nat.le_of_ble_eq_true rfl)⟩) hD hS hA (fun r7 H locs e_r7 hP hD hS => ?_)
      subst e_r7
      refine lv_ldc2 (v := (-1 : Int64)) hx hb hown (hts _ (hT _ wm_3_49)) d_X_array_110 ?_
      refine gw_cv (gc_X_180 (As := [.int (nI (lr_pl y)), .int (nI (lr_pl (-z))), .long (-1 : Int64)]) (rest := []) hF hT (c_T_lowerTo ⟨to, tc⟩ hn ((h2.tm hN5).2 h2.nz) ((lr_tm_neg he (h3.tm hN5)).2 (mz_nz h3.nz))) ⟨(Nat.le_of_ble_eq_true rfl), (Nat.le_of_ble_eq_true rfl)⟩ rfl rfl hK hN hP hD to rfl hl.1 rfl (Nat.le_of_ble_eq_true rfl) d_X_array_113 ⟨(Nat.le_of_ble_eq_true rfl), (Nat.le_of_ble_eq_true rfl)⟩) hD hS hA (fun w H locs hw hP hD hS => ?_)
      obtain ⟨⟨to, tc⟩, hf⟩ := hw
      have x0 := hf.at x0 (by omega)
      have x1 := hf.at x1 (by omega)
      have s0 := hf.at s0 (by omega)
      have sko := hf.at sko (by omega)
      have skc := hf.at skc (by omega)
      have sbo := hf.at sbo (by omega)
      have sbc := hf.at sbc (by omega)
      have lo := hf.at lo (by omega)
      have lc := hf.at lc (by omega)
      have xn := hf.at xn (by omega)
      have xr := hf.at xr (by omega)
      have hX := hX.kept hf (by omega)
      have hfr := hfr.in hf (by omega) (by omega)
      refine lv_aload_n hx hb d_X_array_116 rfl (lv_at hl 1 rfl) ?_
      refine gf_X_45 hF hT hK hP x0 rfl d_X_array_117 ?_
      refine gw_ci (gc_X_183 (As := []) (rest := []) hF hT (c_T_close ⟨to, tc⟩ hn he) ⟨(Nat.le_of_ble_eq_true rfl), (Nat.le_of_ble_eq_true rfl)⟩ rfl rfl hK hN hP hD to rfl hl.1 rfl (Nat.le_of_ble_eq_true rfl) d_X_array_120 ⟨(Nat.le_of_ble_eq_true rfl), (Nat.le_of_ble_eq_true rfl)⟩) hD hS hA (fun r8 w H locs hw hP hD hS => ?_)
      obtain ⟨hw, hf⟩ := hw
      obtain ⟨F9, h_r8, ⟨to, tc⟩⟩ := lr_clW hw
      have x0 := hf.at x0 (by omega)
      have x1 := hf.at x1 (by omega)
      have s0 := hf.at s0 (by omega)
      have sko := hf.at sko (by omega)
      have skc := hf.at skc (by omega)
      have sbo := hf.at sbo (by omega)
      have sbc := hf.at sbc (by omega)
      have lo := hf.at lo (by omega)
      have lc := hf.at lc (by omega)
      have xn := hf.at xn (by omega)
      have xr := hf.at xr (by omega)
      have hX := hX.kept hf (by omega)
      have hfr := hfr.in hf (by omega) (by omega)
      refine lv_if_eq (tgt := 130) hx hb d_X_array_123 (by decide) (fun c10 => ?_) (fun c10 => ?_)
      · refine lv_iconst (v := -1) hx hb d_X_array_130 (by decide) ?_
        exact vx_ret (gw_iret hx hb hr hlocks hK hP hD hS (Nat.le_of_ble_eq_true rfl) (Nat.le_of_ble_eq_true rfl) d_X_array_131 ⟨⟨h1, h2, h3, c1⟩, k, hk, rfl, _, Or.inr ⟨fun q => absurd c3 (Int64.not_lt.mpr q.1), Or.inr ⟨gq_t h_r8 c10, rfl⟩⟩, ⟨x0, x1, hsf, hX, ⟨s0, ⟨sko, skc⟩, ⟨sbo, sbc⟩⟩, ⟨lo, lc⟩, ⟨to, tc⟩, xn, xr⟩, hfr⟩)
      · refine lv_iconst (v := nI 0) hx hb d_X_array_126 (by decide) ?_
        refine lv_goto (tgt := 131) hx hb d_X_array_127 (by decide) ?_
        exact vx_ret (gw_iret hx hb hr hlocks hK hP hD hS (Nat.le_of_ble_eq_true rfl) (Nat.le_of_ble_eq_true rfl) d_X_array_131 ⟨⟨h1, h2, h3, c1⟩, k, hk, rfl, _, Or.inr ⟨fun q => absurd c3 (Int64.not_lt.mpr q.1), Or.inl ⟨gq_f h_r8 c10, rfl⟩⟩, ⟨x0, x1, hsf, hX, ⟨s0, ⟨sko, skc⟩, ⟨sbo, sbc⟩⟩, ⟨lo, lc⟩, ⟨to, tc⟩, xn, xr⟩, hfr⟩)
    · refine lv_aload hx hb d_X_array_50 (lv_at hl 0 rfl) ?_
      refine lv_iload_n hx hb d_X_array_52 rfl (lv_at hl 3 rfl) ?_
      refine lv_iload_n hx hb d_X_array_53 rfl (lv_at hl 4 rfl) ?_
      refine lv_ineg hx hb d_X_array_54 ?_
      refine gw_cl0 (gc_X_83 (As := [.int y, .int (-z)]) (rest := []) hF hT (c_S_greatest (hX k (by omega)).1 hn he (h2.tm hN5) (lr_tm_neg he (h3.tm hN5))) ⟨(Nat.le_of_ble_eq_true rfl), (Nat.le_of_ble_eq_true rfl)⟩ rfl rfl hK hN hP hD (hX k (by omega)).1.1 rfl hl.1 rfl (Nat.le_of_ble_eq_true rfl) d_X_array_55 ⟨(Nat.le_of_ble_eq_true rfl), (Nat.le_of_ble_eq_true rfl)⟩) hD hS hA (fun r11 H locs e_r11 hP hD hS => ?_)
      subst e_r11
      refine lv_ldc2 (v := (-1 : Int64)) hx hb hown (hts _ (hT _ wm_3_49)) d_X_array_58 ?_
      refine gx_lgt (tgt := 67) hx hb d_X_array_61 d_X_array_62 (by decide) (fun c12 => ?_) (fun c12 => ?_)
      · refine lv_aload_n hx hb d_X_array_67 rfl (lv_at hl 1 rfl) ?_
        refine gf_X_45 hF hT hK hP x0 rfl d_X_array_68 ?_
        refine lv_aload hx hb d_X_array_71 (lv_at hl 0 rfl) ?_
        refine gf_X_127 hF hT hN hK hP (hX k (by omega)).1.1 rfl d_X_array_73 ?_
        refine gw_cv (gc_X_150 (As := [.ref (xsh A k 3)]) (rest := []) hF hT (c_T_takeFrom ⟨to, tc⟩ hn (hX k (by omega)).1.2.2) ⟨(Nat.le_of_ble_eq_true rfl), (Nat.le_of_ble_eq_true rfl)⟩ rfl rfl hK hN hP hD to rfl hl.1 rfl (Nat.le_of_ble_eq_true rfl) d_X_array_76 ⟨(Nat.le_of_ble_eq_true rfl), (Nat.le_of_ble_eq_true rfl)⟩) hD hS hA (fun w H locs hw hP hD hS => ?_)
        obtain ⟨⟨to, tc⟩, hf⟩ := hw
        have x0 := hf.at x0 (by omega)
        have x1 := hf.at x1 (by omega)
        have s0 := hf.at s0 (by omega)
        have sko := hf.at sko (by omega)
        have skc := hf.at skc (by omega)
        have sbo := hf.at sbo (by omega)
        have sbc := hf.at sbc (by omega)
        have lo := hf.at lo (by omega)
        have lc := hf.at lc (by omega)
        have xn := hf.at xn (by omega)
        have xr := hf.at xr (by omega)
        have hX := hX.kept hf (by omega)
        have hfr := hfr.in hf (by omega) (by omega)
        refine lv_aload_n hx hb d_X_array_79 rfl (lv_at hl 1 rfl) ?_
        refine gf_X_45 hF hT hK hP x0 rfl d_X_array_80 ?_
        refine lv_iload_n hx hb d_X_array_83 rfl (lv_at hl 3 rfl) ?_
        refine lv_ineg hx hb d_X_array_84 ?_
        refine gw_ci0 (gc_X_177 (As := [.int (-y)]) (rest := [.ref (A 49)]) hF hT (c_X_placeOf (neg_small (h2.tm hN5).1) (mz_nz h2.nz)) ⟨(Nat.le_of_ble_eq_true rfl), (Nat.le_of_ble_eq_true rfl)⟩ rfl rfl hK hN hP hD rfl hl.1 rfl (Nat.le_of_ble_eq_true rfl) d_X_array_85 ⟨(Nat.le_of_ble_eq_true rfl), (Nat.le_of_ble_eq_true rfl)⟩) hD hS hA (fun r13 H locs e_r13 hP hD hS => ?_)
        subst e_r13
        refine lv_iload_n hx hb d_X_array_88 rfl (lv_at hl 3 rfl) ?_
        refine lv_ineg hx hb d_X_array_89 ?_
        refine gw_ci0 (gc_X_177 (As := [.int (-y)]) (rest := [.int (nI (lr_pl (-y))), .ref (A 49)]) hF hT (c_X_placeOf (neg_small (h2.tm hN5).1) (mz_nz h2.nz)) ⟨(Nat.le_of_ble_eq_true rfl), (Nat.le_of_ble_eq_true rfl)⟩ rfl rfl hK hN hP hD rfl hl.1 rfl (Nat.le_of_ble_eq_true rfl) d_X_array_90 ⟨(Nat.le_of_ble_eq_true rfl), (Nat.le_of_ble_eq_true rfl)⟩) hD hS hA (fun r14 H locs e_r14 hP hD hS => ?_)
        subst e_r14
        refine lv_lconst (v := 0) hx hb d_X_array_93 rfl ?_
        refine gw_cv (gc_X_180 (As := [.int (nI (lr_pl (-y))), .int (nI (lr_pl (-y))), .long (0 : Int64)]) (rest := []) hF hT (c_T_lowerTo ⟨to, tc⟩ hn ((lr_tm_neg he (h2.tm hN5)).2 (mz_nz h2.nz)) ((lr_tm_neg he (h2.tm hN5)).2 (mz_nz h2.nz))) ⟨(Nat.le_of_ble_eq_true rfl), (Nat.le_of_ble_eq_true rfl)⟩ rfl rfl hK hN hP hD to rfl hl.1 rfl (Nat.le_of_ble_eq_true rfl) d_X_array_94 ⟨(Nat.le_of_ble_eq_true rfl), (Nat.le_of_ble_eq_true rfl)⟩) hD hS hA (fun w H locs hw hP hD hS => ?_)
        obtain ⟨⟨to, tc⟩, hf⟩ := hw
        have x0 := hf.at x0 (by omega)
        have x1 := hf.at x1 (by omega)
        have s0 := hf.at s0 (by omega)
        have sko := hf.at sko (by omega)
        have skc := hf.at skc (by omega)
        have sbo := hf.at sbo (by omega)
        have sbc := hf.at sbc (by omega)
        have lo := hf.at lo (by omega)
        have lc := hf.at lc (by omega)
        have xn := hf.at xn (by omega)
        have xr := hf.at xr (by omega)
        have hX := hX.kept hf (by omega)
        have hfr := hfr.in hf (by omega) (by omega)
        refine lv_aload_n hx hb d_X_array_97 rfl (lv_at hl 1 rfl) ?_
        refine gf_X_45 hF hT hK hP x0 rfl d_X_array_98 ?_
        refine lv_iload_n hx hb d_X_array_101 rfl (lv_at hl 3 rfl) ?_
        refine gw_ci0 (gc_X_177 (As := [.int y]) (rest := [.ref (A 49)]) hF hT (c_X_placeOf (h2.tm hN5).1 h2.nz) ⟨(Nat.le_of_ble_eq_true rfl), (Nat.le_of_ble_eq_true rfl)⟩ rfl rfl hK hN hP hD rfl hl.1 rfl (Nat.le_of_ble_eq_true rfl) d_X_array_102 ⟨(Nat.le_of_ble_eq_true rfl), (Nat.le_of_ble_eq_true rfl)⟩) hD hS hA (fun r15 H locs e_r15 hP hD hS => ?_)
        subst e_r15
        refine lv_iload_n hx hb d_X_array_105 rfl (lv_at hl 4 rfl) ?_
        refine lv_ineg hx hb d_X_array_106 ?_
        refine gw_ci0 (gc_X_177 (As := [.int (-z)]) (rest := [.int (nI (lr_pl y)), .ref (A 49)]) hF hT (c_X_placeOf (neg_small (h3.tm hN5).1) (mz_nz h3.nz)) ⟨(Nat.le_of_ble_eq_true rfl), (Nat.le_of_ble_eq_true rfl)⟩ rfl rfl hK hN hP hD rfl hl.1 rfl (Nat.le_of_ble_eq_true rfl) d_X_array_107 ⟨(Nat.le_of_ble_eq_true rfl), (Nat.le_of_ble_eq_true rfl)⟩) hD hS hA (fun r16 H locs e_r16 hP hD hS => ?_)
        subst e_r16
        refine lv_ldc2 (v := (-1 : Int64)) hx hb hown (hts _ (hT _ wm_3_49)) d_X_array_110 ?_
        refine gw_cv (gc_X_180 (As := [.int (nI (lr_pl y)), .int (nI (lr_pl (-z))), .long (-1 : Int64)]) (rest := []) hF hT (c_T_lowerTo ⟨to, tc⟩ hn ((h2.tm hN5).2 h2.nz) ((lr_tm_neg he (h3.tm hN5)).2 (mz_nz h3.nz))) ⟨(Nat.le_of_ble_eq_true rfl), (Nat.le_of_ble_eq_true rfl)⟩ rfl rfl hK hN hP hD to rfl hl.1 rfl (Nat.le_of_ble_eq_true rfl) d_X_array_113 ⟨(Nat.le_of_ble_eq_true rfl), (Nat.le_of_ble_eq_true rfl)⟩) hD hS hA (fun w H locs hw hP hD hS => ?_)
        obtain ⟨⟨to, tc⟩, hf⟩ := hw
        have x0 := hf.at x0 (by omega)
        have x1 := hf.at x1 (by omega)
        have s0 := hf.at s0 (by omega)
        have sko := hf.at sko (by omega)
        have skc := hf.at skc (by omega)
        have sbo := hf.at sbo (by omega)
        have sbc := hf.at sbc (by omega)
        have lo := hf.at lo (by omega)
        have lc := hf.at lc (by omega)
        have xn := hf.at xn (by omega)
        have xr := hf.at xr (by omega)
        have hX := hX.kept hf (by omega)
        have hfr := hfr.in hf (by omega) (by omega)
        refine lv_aload_n hx hb d_X_array_116 rfl (lv_at hl 1 rfl) ?_
        refine gf_X_45 hF hT hK hP x0 rfl d_X_array_117 ?_
        refine gw_ci (gc_X_183 (As := []) (rest := []) hF hT (c_T_close ⟨to, tc⟩ hn he) ⟨(Nat.le_of_ble_eq_true rfl), (Nat.le_of_ble_eq_true rfl)⟩ rfl rfl hK hN hP hD to rfl hl.1 rfl (Nat.le_of_ble_eq_true rfl) d_X_array_120 ⟨(Nat.le_of_ble_eq_true rfl), (Nat.le_of_ble_eq_true rfl)⟩) hD hS hA (fun r17 w H locs hw hP hD hS => ?_)
        obtain ⟨hw, hf⟩ := hw
        obtain ⟨F18, h_r17, ⟨to, tc⟩⟩ := lr_clW hw
        have x0 := hf.at x0 (by omega)
        have x1 := hf.at x1 (by omega)
        have s0 := hf.at s0 (by omega)
        have sko := hf.at sko (by omega)
        have skc := hf.at skc (by omega)
        have sbo := hf.at sbo (by omega)
        have sbc := hf.at sbc (by omega)
        have lo := hf.at lo (by omega)
        have lc := hf.at lc (by omega)
        have xn := hf.at xn (by omega)
        have xr := hf.at xr (by omega)
        have hX := hX.kept hf (by omega)
        have hfr := hfr.in hf (by omega) (by omega)
        refine lv_if_eq (tgt := 130) hx hb d_X_array_123 (by decide) (fun c19 => ?_) (fun c19 => ?_)
        · refine lv_iconst (v := -1) hx hb d_X_array_130 (by decide) ?_
          exact vx_ret (gw_iret hx hb hr hlocks hK hP hD hS (Nat.le_of_ble_eq_true rfl) (Nat.le_of_ble_eq_true rfl) d_X_array_131 ⟨⟨h1, h2, h3, c1⟩, k, hk, rfl, _, Or.inr ⟨fun q => absurd c12 (Int64.not_lt.mpr q.2), Or.inr ⟨gq_t h_r17 c19, rfl⟩⟩, ⟨x0, x1, hsf, hX, ⟨s0, ⟨sko, skc⟩, ⟨sbo, sbc⟩⟩, ⟨lo, lc⟩, ⟨to, tc⟩, xn, xr⟩, hfr⟩)
        · refine lv_iconst (v := nI 0) hx hb d_X_array_126 (by decide) ?_
          refine lv_goto (tgt := 131) hx hb d_X_array_127 (by decide) ?_
          exact vx_ret (gw_iret hx hb hr hlocks hK hP hD hS (Nat.le_of_ble_eq_true rfl) (Nat.le_of_ble_eq_true rfl) d_X_array_131 ⟨⟨h1, h2, h3, c1⟩, k, hk, rfl, _, Or.inr ⟨fun q => absurd c12 (Int64.not_lt.mpr q.2), Or.inl ⟨gq_f h_r17 c19, rfl⟩⟩, ⟨x0, x1, hsf, hX, ⟨s0, ⟨sko, skc⟩, ⟨sbo, sbc⟩⟩, ⟨lo, lc⟩, ⟨to, tc⟩, xn, xr⟩, hfr⟩)
      · refine lv_iconst (v := nI 1) hx hb d_X_array_65 (by decide) ?_
        exact vx_ret (gw_iret hx hb hr hlocks hK hP hD hS (Nat.le_of_ble_eq_true rfl) (Nat.le_of_ble_eq_true rfl) d_X_array_66 ⟨⟨h1, h2, h3, c1⟩, k, hk, rfl, _, Or.inl ⟨⟨Int64.not_lt.mp c3, Int64.not_lt.mp c12⟩, rfl⟩, ⟨x0, x1, hsf, hX, ⟨s0, ⟨sko, skc⟩, ⟨sbo, sbc⟩⟩, ⟨lo, lc⟩, ⟨to, tc⟩, xn, xr⟩, hfr⟩)
  · exact gx_throw (k := 7) hx hb hlt hF hT (by decide +kernel) wm_1_117 wm_1_10 rfl xt1 xb1 xo1 xg1 hK hN hP hD hS hB hE hno hlocks hl.1 d_X_array_19 d_X_array_22 d_X_array_23 d_X_array_25 d_X_array_28 (Nat.le_of_ble_eq_true rfl) (Nat.le_of_ble_eq_true rfl) (Nat.le_of_ble_eq_true rfl) (Nat.le_of_ble_eq_true rfl) (Nat.le_of_ble_eq_true rfl) (Nat.le_of_ble_eq_true rfl) ⟨rfl, fun q => q.2.2.2 c1, rfl⟩

set_option maxHeartbeats 4000000 in
set_option maxRecDepth 100000 in
theorem c_X_numberAt {l : Launch} {D : va_G} {cJ cI cZ cS : ClassId} {ws : va_W} {sz : Nat} {b N : Nat} {A : Nat → Nat} {sf : Nat → Option Nat} {K B : Nat → Nat → Int64} {E : Nat → Int32} {Km Bm : Nat → Int64} {Em : Int32} {Lf Tr nu ne : Nat → Int64} {ct : Int32} (hx0 : xAt cJ cS ws b A N sf K B E Km Bm Em Lf Tr nu ne ct) (hN1 : 1 ≤ N) (hN5 : N ≤ 5) {i : Nat} (hi : i < 2 * N) : Met l y_X_numberAt w_X_numberAt ({ frames := 1, cells := 0, slots := 0, locals := 0 } : Room) (gw_Pc D classes (gT cJ cI cZ cS) [.ref (A 0), .int (nI i)] ws sz) (va_Ql (fun r w => (r = lr_num nu i) ∧ w = ws) (gw_B D classes (gT cJ cI cZ cS) ws sz) (va_A ws sz)) 0 0 (va_A ws sz) := by
  refine gw_head (by decide) (Nat.le_of_ble_eq_true rfl) (fun p e s m below meth c hsz hx hb hr hlocks hml hown hnm hts hK hN hP hD hS hA ls hl => ?_)
  have hown : s.vm.findClass R_X = some m.cls := hown
  have hT : ∀ w ∈ wG, w ∈ Cond.code y_X_numberAt b_X_numberAt 4 (some .long) :: wG := gd_t _
  have hF : CallFix p m c b_X_numberAt 4 s ([.ref (A 0), .int (nI i)] : List Value).toArray (Cond.code y_X_numberAt b_X_numberAt 4 (some .long) :: wG) R_X := ⟨hx, hb, hml, hown, hts⟩
  have hl : lv_has ls 4 [(0, .ref (A 0)), (1, .int (nI i))] := hl
  obtain ⟨x0, x1, hsf, hX, ⟨s0, ⟨sko, skc⟩, ⟨sbo, sbc⟩⟩, ⟨lo, lc⟩, ⟨to, tc⟩, xn, xr⟩ := hx0
  have hn : 2 * N ≤ 10 := by omega
  have he : 2 * N % 2 = 0 := by omega
  refine lv_aload_n hx hb d_X_numberAt_0 rfl (lv_at hl 0 rfl) ?_
  refine gf_X_48 hF hT hK hP x0 rfl d_X_numberAt_1 ?_
  refine lv_iload_n hx hb d_X_numberAt_4 rfl (lv_at hl 1 rfl) ?_
  refine lv_iconst (v := nI 2) hx hb d_X_numberAt_5 (by decide) ?_
  refine lv_idiv hx hb d_X_numberAt_6 (by decide) ?_
  refine gx_i (y := nI (i / 2)) (pk_div (by omega) (by omega) (by omega)) ?_
  refine g_lald (t0 := 0) (k := i / 2) hx hb hK hP xn rfl (by omega) (by omega) d_X_numberAt_7 ?_
  refine lv_lstore_n (lv' := [(2, .long (nu (i / 2))), (0, .ref (A 0)), (1, .int (nI i))]) hx hb d_X_numberAt_8 rfl hl (by decide) rfl (fun ls hl => ?_)
  refine lv_iload_n hx hb d_X_numberAt_9 rfl (lv_at hl 2 rfl) ?_
  refine lv_iconst (v := nI 2) hx hb d_X_numberAt_10 (by decide) ?_
  refine lv_irem hx hb d_X_numberAt_11 (by decide) ?_
  refine gx_i (y := nI (i % 2)) (pk_rem (by omega) (by omega) (by omega)) ?_
  refine lv_if_ne (tgt := 19) hx hb d_X_numberAt_12 (by decide) (fun c1 => ?_) (fun c1 => ?_)
  · have c1 : ¬ (i % 2 = 0) := fun z => c1 ((nI_eq (a := (i % 2)) (b := 0) (by omega) (by omega)).mpr z)
    refine lv_lload_n hx hb d_X_numberAt_19 rfl (lv_at hl 0 rfl) ?_
    refine lv_lneg hx hb d_X_numberAt_20 ?_
    exact gw_lret hx hb hr hlocks hK hP hD hS (Nat.le_of_ble_eq_true rfl) (Nat.le_of_ble_eq_true rfl) d_X_numberAt_21 ⟨(if_neg c1).symm, rfl⟩
  · have c1 := (nI_eq (a := (i % 2)) (b := 0) (by omega) (by omega)).mp c1
    refine lv_lload_n hx hb d_X_numberAt_15 rfl (lv_at hl 0 rfl) ?_
    refine lv_goto (tgt := 21) hx hb d_X_numberAt_16 (by decide) ?_
    exact gw_lret hx hb hr hlocks hK hP hD hS (Nat.le_of_ble_eq_true rfl) (Nat.le_of_ble_eq_true rfl) d_X_numberAt_21 ⟨(if_pos c1).symm, rfl⟩

set_option maxHeartbeats 4000000 in
set_option maxRecDepth 100000 in
theorem c_X_has {l : Launch} (hlt : l.stackTraces = false) {D : va_G} {cJ cI cZ cS : ClassId} {ws : va_W} {sz base : Nat} {b N : Nat} {A : Nat → Nat} {sf : Nat → Option Nat} {K B : Nat → Nat → Int64} {E : Nat → Int32} {Km Bm : Nat → Int64} {Em : Int32} {Lf Tr nu ne : Nat → Int64} {ct : Int32} (hx0 : xAt cJ cS ws b A N sf K B E Km Bm Em Lf Tr nu ne ct) (hN1 : 1 ≤ N) (hN5 : N ≤ 5) {x : Int32} : vx_Met l y_X_has w_X_has ({ frames := 7, cells := 1, slots := 6, locals := 110 } : Room) (gx_Pc D classes (gT cJ cI cZ cS) [.ref (A 0), .int x] ws sz base) (va_Qi (fun r w => (okS x ∧ ∃ k, k < 8 ∧ x = nI k ∧ ((¬ E k = 0 ∧ r = nI 0) ∨ (E k = 0 ∧ ((r = nI 1 ∧ ∀ i, i < 2 * N → ∀ t, t < 2 * N - i → lr_num nu i + lr_num nu (i + t) ≤ B k (i * (2 * N) + (i + t))) ∨ (r = nI 0 ∧ ¬ ∀ i, i < 2 * N → ∀ t, t < 2 * N - i → lr_num nu i + lr_num nu (i + t) ≤ B k (i * (2 * N) + (i + t))))))) ∧ w = ws) (gw_B D classes (gT cJ cI cZ cS) ws sz) (va_A ws sz)) (gX D classes (gT cJ cI cZ cS) ws sz (fun Z w => Z = xIOOB ∧ ¬ (okS x) ∧ w = ws)) 1 6 (va_A ws sz) := by
  refine gx_head (by decide) (Nat.le_of_ble_eq_true rfl) (fun p e s m below meth c hsz hx hb hr hlocks hml hown hnm hts hK hN hP hD hS hA hB hE hno ls hl => ?_)
  have hown : s.vm.findClass R_X = some m.cls := hown
  have hT : ∀ w ∈ wG, w ∈ Cond.code y_X_has b_X_has 4 (some .boolean) :: wG := gd_t _
  have hF : CallFix p m c b_X_has 4 s ([.ref (A 0), .int x] : List Value).toArray (Cond.code y_X_has b_X_has 4 (some .boolean) :: wG) R_X := ⟨hx, hb, hml, hown, hts⟩
  have hl : lv_has ls 4 [(0, .ref (A 0)), (1, .int x)] := hl
  obtain ⟨x0, x1, hsf, hX, ⟨s0, ⟨sko, skc⟩, ⟨sbo, sbc⟩⟩, ⟨lo, lc⟩, ⟨to, tc⟩, xn, xr⟩ := hx0
  have hn : 2 * N ≤ 10 := by omega
  have he : 2 * N % 2 = 0 := by omega
  refine lv_iload_n hx hb d_X_has_0 rfl (lv_at hl 1 rfl) ?_
  refine gx_cv0 (gxc_X_58 (As := [.int x]) (rest := []) hF hT (c_X_checkShape hlt) ⟨(Nat.le_of_ble_eq_true rfl), (Nat.le_of_ble_eq_true rfl)⟩ rfl rfl (gx_pre hK hN hP hD hS hB hA hE) rfl hl.1 rfl (Nat.le_of_ble_eq_true rfl) d_X_has_1 ⟨(Nat.le_of_ble_eq_true rfl), (Nat.le_of_ble_eq_true rfl)⟩) hK hD hS hA hno hlocks (Nat.le_of_ble_eq_true rfl) (Nat.le_of_ble_eq_true rfl) (fun Z u q => by obtain ⟨q1, q2, q3⟩ := q; exact ⟨q1, q2, q3⟩) (fun H locs h1 hP hD hS => ?_)
  obtain ⟨kx, hk, rfl⟩ := h1.k
  refine lv_aload_n hx hb d_X_has_4 rfl (lv_at hl 0 rfl) ?_
  refine gf_X_27 hF hT hK hP x0 rfl d_X_has_5 ?_
  refine lv_iload_n hx hb d_X_has_8 rfl (lv_at hl 1 rfl) ?_
  refine g_aald (t0 := 3) (k := kx) hx hb hK hP x1 rfl (by omega) (by decide) (hsf kx (by omega)) d_X_has_9 ?_
  refine gf_X_123 hF hT hN hK hP (hX kx (by omega)).1.1 rfl d_X_has_10 ?_
  refine lv_if_eq (tgt := 18) hx hb d_X_has_13 (by decide) (fun c1 => ?_) (fun c1 => ?_)
  · refine lv_iconst (v := nI 0) hx hb d_X_has_18 (by decide) ?_
    refine lv_istore_n (lv' := [(2, .int (nI 0)), (0, .ref (A 0)), (1, .int (nI kx))]) hx hb d_X_has_19 rfl hl (by decide) rfl (fun ls hl => ?_)
    have lp_20 : ∀ (dd i : Nat), i + dd = (2 * N) → ∀ (H : Heap) (locs : List Loc) (ls : Array Slot), (∀ a, a < i → ∀ t, t < 2 * N - a → lr_num nu a + lr_num nu (a + t) ≤ B kx (a * (2 * N) + (a + t))) → va_P D classes ws H → va_D (va_A ws sz) ws → va_S (va_A ws sz) s.heap H locs → lv_has ls 4 [(2, .int (nI i)), (0, .ref (A 0)), (1, .int (nI kx))] → W p l e ({ frames := 7, cells := 1, slots := 6, locals := 110 } : Room) s m ([.ref (A 0), .int (nI kx)] : List Value).toArray below meth c H locs 1 6 (vx_MQ below (va_Qi (fun r w => (okS (nI kx) ∧ ∃ k, k < 8 ∧ (nI kx) = nI k ∧ ((¬ E k = 0 ∧ r = nI 0) ∨ (E k = 0 ∧ ((r = nI 1 ∧ ∀ i, i < 2 * N → ∀ t, t < 2 * N - i → lr_num nu i + lr_num nu (i + t) ≤ B k (i * (2 * N) + (i + t))) ∨ (r = nI 0 ∧ ¬ ∀ i, i < 2 * N → ∀ t, t < 2 * N - i → lr_num nu i + lr_num nu (i + t) ≤ B k (i * (2 * N) + (i + t))))))) ∧ w = ws) (gw_B D classes (gT cJ cI cZ cS) ws sz) (va_A ws sz)) (gX D classes (gT cJ cI cZ cS) ws sz (fun Z w => Z = xIOOB ∧ ¬ (okS (nI kx)) ∧ w = ws)) ([.ref (A 0), .int (nI kx)] : List Value).toArray s 1 6 (va_A ws sz)) (F0 m 20 ls []) := by
      intro dd
      induction dd with
      | zero =>
        intro i e_i H locs ls ha hP hD hS hl
        have e0_i : (2 * N) = i := by omega
        subst e0_i
        refine lv_iload_n hx hb d_X_has_20 rfl (lv_at hl 0 rfl) ?_
        refine lv_aload_n hx hb d_X_has_21 rfl (lv_at hl 1 rfl) ?_
        refine gf_X_22 hF hT hK hP x0 rfl d_X_has_22 ?_
        refine lv_icmp_ge (tgt := 81) hx hb d_X_has_25 (by decide) (fun c2 => ?_) (fun c2 => ?_)
        · have c2 := (nI_leI (a := (2 * N)) (b := (2 * N)) (by omega) (by omega)).mp c2
          refine lv_iconst (v := nI 1) hx hb d_X_has_81 (by decide) ?_
          exact vx_ret (gw_zret hx hb hr hlocks hK hP hD hS (Nat.le_of_ble_eq_true rfl) (Nat.le_of_ble_eq_true rfl) rfl d_X_has_82 ⟨⟨h1, kx, hk, rfl, Or.inr ⟨c1, Or.inl ⟨rfl, fun a h => ha a h⟩⟩⟩, rfl⟩)
        · have c2 : ¬ (2 * N ≤ (2 * N)) := fun z => c2 ((nI_leI (a := (2 * N)) (b := (2 * N)) (by omega) (by omega)).mpr z)
          exfalso; omega
      | succ dd ih_20 =>
        intro i e_i H locs ls ha hP hD hS hl
        refine lv_iload_n hx hb d_X_has_20 rfl (lv_at hl 0 rfl) ?_
        refine lv_aload_n hx hb d_X_has_21 rfl (lv_at hl 1 rfl) ?_
        refine gf_X_22 hF hT hK hP x0 rfl d_X_has_22 ?_
        refine lv_icmp_ge (tgt := 81) hx hb d_X_has_25 (by decide) (fun c3 => ?_) (fun c3 => ?_)
        · have c3 := (nI_leI (a := (2 * N)) (b := i) (by omega) (by omega)).mp c3
          exfalso; omega
        · have c3 : ¬ (2 * N ≤ i) := fun z => c3 ((nI_leI (a := (2 * N)) (b := i) (by omega) (by omega)).mpr z)
          refine lv_iload_n hx hb d_X_has_28 rfl (lv_at hl 0 rfl) ?_
          refine lv_istore_n (lv' := [(3, .int (nI i)), (2, .int (nI i)), (0, .ref (A 0)), (1, .int (nI kx))]) hx hb d_X_has_29 rfl hl (by decide) rfl (fun ls hl => ?_)
          have lp_30 : ∀ (dd t : Nat), t + dd = (2 * N - i) → ∀ (H : Heap) (locs : List Loc) (ls : Array Slot), (∀ b1, b1 < t → lr_num nu i + lr_num nu (i + b1) ≤ B kx (i * (2 * N) + (i + b1))) → va_P D classes ws H → va_D (va_A ws sz) ws → va_S (va_A ws sz) s.heap H locs → lv_has ls 4 [(3, .int (nI (i + t))), (2, .int (nI i)), (0, .ref (A 0)), (1, .int (nI kx))] → W p l e ({ frames := 7, cells := 1, slots := 6, locals := 110 } : Room) s m ([.ref (A 0), .int (nI kx)] : List Value).toArray below meth c H locs 1 6 (vx_MQ below (va_Qi (fun r w => (okS (nI kx) ∧ ∃ k, k < 8 ∧ (nI kx) = nI k ∧ ((¬ E k = 0 ∧ r = nI 0) ∨ (E k = 0 ∧ ((r = nI 1 ∧ ∀ i, i < 2 * N → ∀ t, t < 2 * N - i → lr_num nu i + lr_num nu (i + t) ≤ B k (i * (2 * N) + (i + t))) ∨ (r = nI 0 ∧ ¬ ∀ i, i < 2 * N → ∀ t, t < 2 * N - i → lr_num nu i + lr_num nu (i + t) ≤ B k (i * (2 * N) + (i + t))))))) ∧ w = ws) (gw_B D classes (gT cJ cI cZ cS) ws sz) (va_A ws sz)) (gX D classes (gT cJ cI cZ cS) ws sz (fun Z w => Z = xIOOB ∧ ¬ (okS (nI kx)) ∧ w = ws)) ([.ref (A 0), .int (nI kx)] : List Value).toArray s 1 6 (va_A ws sz)) (F0 m 30 ls []) := by
            intro dd
            induction dd with
            | zero =>
              intro t e_t H locs ls hq hP hD hS hl
              have e0_t : (2 * N - i) = t := by omega
              subst e0_t
              refine lv_iload_n hx hb d_X_has_30 rfl (lv_at hl 0 rfl) ?_
              refine lv_aload_n hx hb d_X_has_31 rfl (lv_at hl 2 rfl) ?_
              refine gf_X_22 hF hT hK hP x0 rfl d_X_has_32 ?_
              refine lv_icmp_ge (tgt := 75) hx hb d_X_has_35 (by decide) (fun c4 => ?_) (fun c4 => ?_)
              · have c4 := (nI_leI (a := (2 * N)) (b := (i + (2 * N - i))) (by omega) (by omega)).mp c4
                refine lv_iinc (v := nI (i + 1)) (lv' := [(2, .int (nI (i + 1))), (3, .int (nI (i + (2 * N - i)))), (0, .ref (A 0)), (1, .int (nI kx))]) hx hb d_X_has_75 hl (k := 1) rfl (gx_inc _) (by decide) rfl (fun ls hl => ?_)
                refine lv_goto (tgt := 20) hx hb d_X_has_78 (by decide) ?_
                exact ih_20 (i + 1) (by omega) _ _ _  (lt_s ha (fun t ht => hq t (by omega))) hP hD hS (lv_sub hl [0, 2, 3] rfl)
              · have c4 : ¬ (2 * N ≤ i + (2 * N - i)) := fun z => c4 ((nI_leI (a := (2 * N)) (b := (i + (2 * N - i))) (by omega) (by omega)).mpr z)
                exfalso; omega
            | succ dd ih_30 =>
              intro t e_t H locs ls hq hP hD hS hl
              refine lv_iload_n hx hb d_X_has_30 rfl (lv_at hl 0 rfl) ?_
              refine lv_aload_n hx hb d_X_has_31 rfl (lv_at hl 2 rfl) ?_
              refine gf_X_22 hF hT hK hP x0 rfl d_X_has_32 ?_
              refine lv_icmp_ge (tgt := 75) hx hb d_X_has_35 (by decide) (fun c5 => ?_) (fun c5 => ?_)
              · have c5 := (nI_leI (a := (2 * N)) (b := (i + t)) (by omega) (by omega)).mp c5
                exfalso; omega
              · have c5 : ¬ (2 * N ≤ i + t) := fun z => c5 ((nI_leI (a := (2 * N)) (b := (i + t)) (by omega) (by omega)).mpr z)
                refine lv_aload_n hx hb d_X_has_38 rfl (lv_at hl 2 rfl) ?_
                refine lv_iload_n hx hb d_X_has_39 rfl (lv_at hl 1 rfl) ?_
                refine gw_cl0 (gc_X_134 (As := [.int (nI i)]) (rest := []) hF hT (c_X_numberAt ⟨x0, x1, hsf, hX, ⟨s0, ⟨sko, skc⟩, ⟨sbo, sbc⟩⟩, ⟨lo, lc⟩, ⟨to, tc⟩, xn, xr⟩ hN1 hN5 (i := i) (by omega)) ⟨(Nat.le_of_ble_eq_true rfl), (Nat.le_of_ble_eq_true rfl)⟩ rfl rfl hK hN hP hD x0 rfl hl.1 rfl (Nat.le_of_ble_eq_true rfl) d_X_has_40 ⟨(Nat.le_of_ble_eq_true rfl), (Nat.le_of_ble_eq_true rfl)⟩) hD hS hA (fun r6 H locs e_r6 hP hD hS => ?_)
                subst e_r6
                refine lv_aload_n hx hb d_X_has_43 rfl (lv_at hl 2 rfl) ?_
                refine lv_iload_n hx hb d_X_has_44 rfl (lv_at hl 0 rfl) ?_
                refine gw_cl0 (gc_X_134 (As := [.int (nI (i + t))]) (rest := [.long (lr_num nu i)]) hF hT (c_X_numberAt ⟨x0, x1, hsf, hX, ⟨s0, ⟨sko, skc⟩, ⟨sbo, sbc⟩⟩, ⟨lo, lc⟩, ⟨to, tc⟩, xn, xr⟩ hN1 hN5 (i := i + t) (by omega)) ⟨(Nat.le_of_ble_eq_true rfl), (Nat.le_of_ble_eq_true rfl)⟩ rfl rfl hK hN hP hD x0 rfl hl.1 rfl (Nat.le_of_ble_eq_true rfl) d_X_has_45 ⟨(Nat.le_of_ble_eq_true rfl), (Nat.le_of_ble_eq_true rfl)⟩) hD hS hA (fun r7 H locs e_r7 hP hD hS => ?_)
                subst e_r7
                refine lv_ladd hx hb d_X_has_48 ?_
                refine lv_aload_n hx hb d_X_has_49 rfl (lv_at hl 2 rfl) ?_
                refine gf_X_27 hF hT hK hP x0 rfl d_X_has_50 ?_
                refine lv_iload_n hx hb d_X_has_53 rfl (lv_at hl 3 rfl) ?_
                refine g_aald (t0 := 3) (k := kx) hx hb hK hP x1 rfl (by omega) (by decide) (hsf kx (by omega)) d_X_has_54 ?_
                refine gf_X_127 hF hT hN hK hP (hX kx (by omega)).1.1 rfl d_X_has_55 ?_
                refine lv_iload_n hx hb d_X_has_58 rfl (lv_at hl 1 rfl) ?_
                refine lv_iload_n hx hb d_X_has_59 rfl (lv_at hl 0 rfl) ?_
                refine gw_cl0 (gc_X_138 (As := [.int (nI i), .int (nI (i + t))]) (rest := [.long ((lr_num nu i) + (lr_num nu (i + t)))]) hF hT (c_T_at (hX kx (by omega)).1.2.2 hn (by omega) (by omega)) ⟨(Nat.le_of_ble_eq_true rfl), (Nat.le_of_ble_eq_true rfl)⟩ rfl rfl hK hN hP hD (hX kx (by omega)).1.2.2.1 rfl hl.1 rfl (Nat.le_of_ble_eq_true rfl) d_X_has_60 ⟨(Nat.le_of_ble_eq_true rfl), (Nat.le_of_ble_eq_true rfl)⟩) hD hS hA (fun r8 H locs e_r8 hP hD hS => ?_)
                subst e_r8
                refine gx_lle (tgt := 69) hx hb d_X_has_63 d_X_has_64 (by decide) (fun c9 => ?_) (fun c9 => ?_)
                · refine lv_iinc (v := nI (i + t + 1)) (lv' := [(3, .int (nI (i + t + 1))), (2, .int (nI i)), (0, .ref (A 0)), (1, .int (nI kx))]) hx hb d_X_has_69 hl (k := 0) rfl (gx_inc _) (by decide) rfl (fun ls hl => ?_)
                  refine lv_goto (tgt := 30) hx hb d_X_has_72 (by decide) ?_
                  exact ih_30 (t + 1) (by omega) _ _ _  (lt_s hq c9) hP hD hS (lv_sub hl [0, 1, 2, 3] rfl)
                · refine lv_iconst (v := nI 0) hx hb d_X_has_67 (by decide) ?_
                  exact vx_ret (gw_zret hx hb hr hlocks hK hP hD hS (Nat.le_of_ble_eq_true rfl) (Nat.le_of_ble_eq_true rfl) rfl d_X_has_68 ⟨⟨h1, kx, hk, rfl, Or.inr ⟨c1, Or.inr ⟨rfl, fun q => c9 (q i (by omega) t (by omega))⟩⟩⟩, rfl⟩)
          exact lp_30 (2 * N - i) 0 (by omega) _ _ _  lt_0 hP hD hS (lv_sub hl [0, 1, 2, 3] rfl)
    exact lp_20 (2 * N) 0 (by omega) _ _ _  lt_0 hP hD hS (lv_sub hl [0, 1, 2] rfl)
  · refine lv_iconst (v := nI 0) hx hb d_X_has_16 (by decide) ?_
    exact vx_ret (gw_zret hx hb hr hlocks hK hP hD hS (Nat.le_of_ble_eq_true rfl) (Nat.le_of_ble_eq_true rfl) rfl d_X_has_17 ⟨⟨h1, kx, hk, rfl, Or.inl ⟨c1, rfl⟩⟩, rfl⟩)

set_option maxHeartbeats 4000000 in
set_option maxRecDepth 100000 in
theorem c_X_countEmpty {l : Launch} {D : va_G} {cJ cI cZ cS : ClassId} {ws : va_W} {sz : Nat} {b N : Nat} {A : Nat → Nat} {sf : Nat → Option Nat} {K B : Nat → Nat → Int64} {E : Nat → Int32} {Km Bm : Nat → Int64} {Em : Int32} {Lf Tr nu ne : Nat → Int64} {ct : Int32} (hx0 : xAt cJ cS ws b A N sf K B E Km Bm Em Lf Tr nu ne ct) (hN1 : 1 ≤ N) (hN5 : N ≤ 5) : Met l y_X_countEmpty w_X_countEmpty ({ frames := 1, cells := 0, slots := 0, locals := 0 } : Room) (gw_Pc D classes (gT cJ cI cZ cS) [.ref (A 0)] ws sz) (va_Qi (fun r w => (r = nI (lr_cntE E 8)) ∧ w = ws) (gw_B D classes (gT cJ cI cZ cS) ws sz) (va_A ws sz)) 0 0 (va_A ws sz) := by
  refine gw_head (by decide) (Nat.le_of_ble_eq_true rfl) (fun p e s m below meth c hsz hx hb hr hlocks hml hown hnm hts hK hN hP hD hS hA ls hl => ?_)
  have hown : s.vm.findClass R_X = some m.cls := hown
  have hT : ∀ w ∈ wG, w ∈ Cond.code y_X_countEmpty b_X_countEmpty 3 (some .int) :: wG := gd_t _
  have hF : CallFix p m c b_X_countEmpty 3 s ([.ref (A 0)] : List Value).toArray (Cond.code y_X_countEmpty b_X_countEmpty 3 (some .int) :: wG) R_X := ⟨hx, hb, hml, hown, hts⟩
  have hl : lv_has ls 3 [(0, .ref (A 0))] := hl
  obtain ⟨x0, x1, hsf, hX, ⟨s0, ⟨sko, skc⟩, ⟨sbo, sbc⟩⟩, ⟨lo, lc⟩, ⟨to, tc⟩, xn, xr⟩ := hx0
  have hn : 2 * N ≤ 10 := by omega
  have he : 2 * N % 2 = 0 := by omega
  refine lv_iconst (v := nI 0) hx hb d_X_countEmpty_0 (by decide) ?_
  refine lv_istore_n (lv' := [(1, .int (nI 0)), (0, .ref (A 0))]) hx hb d_X_countEmpty_1 rfl hl (by decide) rfl (fun ls hl => ?_)
  refine lv_iconst (v := nI 0) hx hb d_X_countEmpty_2 (by decide) ?_
  refine lv_istore_n (lv' := [(2, .int (nI 0)), (1, .int (nI 0)), (0, .ref (A 0))]) hx hb d_X_countEmpty_3 rfl hl (by decide) rfl (fun ls hl => ?_)
  have lp_4 : ∀ (dd i : Nat), i + dd = 8 → ∀ (H : Heap) (locs : List Loc) (ls : Array Slot), va_P D classes ws H → va_D (va_A ws sz) ws → va_S (va_A ws sz) s.heap H locs → lv_has ls 3 [(2, .int (nI i)), (1, .int (nI (lr_cntE E i))), (0, .ref (A 0))] → W p l e ({ frames := 1, cells := 0, slots := 0, locals := 0 } : Room) s m ([.ref (A 0)] : List Value).toArray below meth c H locs 0 0 (MQ below (va_Qi (fun r w => (r = nI (lr_cntE E 8)) ∧ w = ws) (gw_B D classes (gT cJ cI cZ cS) ws sz) (va_A ws sz)) ([.ref (A 0)] : List Value).toArray s 0 0 (va_A ws sz)) (F0 m 4 ls []) := by
    intro dd
    induction dd with
    | zero =>
      intro i e_i H locs ls hP hD hS hl
      have e0_i : 8 = i := by omega
      subst e0_i
      refine lv_iload_n hx hb d_X_countEmpty_4 rfl (lv_at hl 0 rfl) ?_
      refine lv_bipush (v := nI 8) hx hb d_X_countEmpty_5 (by decide) ?_
      refine lv_icmp_ge (tgt := 36) hx hb d_X_countEmpty_7 (by decide) (fun c1 => ?_) (fun c1 => ?_)
      · have c1 := (nI_leI (a := 8) (b := 8) (by omega) (by omega)).mp c1
        refine lv_iload_n hx hb d_X_countEmpty_36 rfl (lv_at hl 1 rfl) ?_
        exact gw_iret hx hb hr hlocks hK hP hD hS (Nat.le_of_ble_eq_true rfl) (Nat.le_of_ble_eq_true rfl) d_X_countEmpty_37 ⟨rfl, rfl⟩
      · have c1 : ¬ (8 ≤ 8) := fun z => c1 ((nI_leI (a := 8) (b := 8) (by omega) (by omega)).mpr z)
        exfalso; omega
    | succ dd ih_4 =>
      intro i e_i H locs ls hP hD hS hl
      refine lv_iload_n hx hb d_X_countEmpty_4 rfl (lv_at hl 0 rfl) ?_
      refine lv_bipush (v := nI 8) hx hb d_X_countEmpty_5 (by decide) ?_
      refine lv_icmp_ge (tgt := 36) hx hb d_X_countEmpty_7 (by decide) (fun c2 => ?_) (fun c2 => ?_)
      · have c2 := (nI_leI (a := 8) (b := i) (by omega) (by omega)).mp c2
        exfalso; omega
      · have c2 : ¬ (8 ≤ i) := fun z => c2 ((nI_leI (a := 8) (b := i) (by omega) (by omega)).mpr z)
        refine lv_iload_n hx hb d_X_countEmpty_10 rfl (lv_at hl 1 rfl) ?_
        refine lv_aload_n hx hb d_X_countEmpty_11 rfl (lv_at hl 2 rfl) ?_
        refine gf_X_27 hF hT hK hP x0 rfl d_X_countEmpty_12 ?_
        refine lv_iload_n hx hb d_X_countEmpty_15 rfl (lv_at hl 0 rfl) ?_
        refine g_aald (t0 := 3) (k := i) hx hb hK hP x1 rfl (by omega) (by decide) (hsf i (by omega)) d_X_countEmpty_16 ?_
        refine gf_X_123 hF hT hN hK hP (hX i (by omega)).1.1 rfl d_X_countEmpty_17 ?_
        refine lv_if_eq (tgt := 27) hx hb d_X_countEmpty_20 (by decide) (fun c3 => ?_) (fun c3 => ?_)
        · refine lv_iconst (v := nI 0) hx hb d_X_countEmpty_27 (by decide) ?_
          refine lv_iadd hx hb d_X_countEmpty_28 ?_
          refine gx_i (y := nI ((lr_cntE E i) + 0)) (nI_add _ _) ?_
          refine lv_istore_n (lv' := [(1, .int (nI ((lr_cntE E i) + 0))), (2, .int (nI i)), (0, .ref (A 0))]) hx hb d_X_countEmpty_29 rfl hl (by decide) rfl (fun ls hl => ?_)
          refine lv_iinc (v := nI (i + 1)) (lv' := [(2, .int (nI (i + 1))), (1, .int (nI ((lr_cntE E i) + 0))), (0, .ref (A 0))]) hx hb d_X_countEmpty_30 hl (k := 1) rfl (gx_inc _) (by decide) rfl (fun ls hl => ?_)
          refine lv_goto (tgt := 4) hx hb d_X_countEmpty_33 (by decide) ?_
          have eB4 : lr_cntE E (i + 1) = (lr_cntE E i) + 0 := by show _ + (if _ then _ else _) = _; rw [if_pos c3]; rfl
          rw [← eB4] at hl
          exact ih_4 (i + 1) (by omega) _ _ _  hP hD hS (lv_sub hl [0, 1, 2] rfl)
        · refine lv_iconst (v := nI 1) hx hb d_X_countEmpty_23 (by decide) ?_
          refine lv_goto (tgt := 28) hx hb d_X_countEmpty_24 (by decide) ?_
          refine lv_iadd hx hb d_X_countEmpty_28 ?_
          refine gx_i (y := nI ((lr_cntE E i) + 1)) (nI_add _ _) ?_
          refine lv_istore_n (lv' := [(1, .int (nI ((lr_cntE E i) + 1))), (2, .int (nI i)), (0, .ref (A 0))]) hx hb d_X_countEmpty_29 rfl hl (by decide) rfl (fun ls hl => ?_)
          refine lv_iinc (v := nI (i + 1)) (lv' := [(2, .int (nI (i + 1))), (1, .int (nI ((lr_cntE E i) + 1))), (0, .ref (A 0))]) hx hb d_X_countEmpty_30 hl (k := 1) rfl (gx_inc _) (by decide) rfl (fun ls hl => ?_)
          refine lv_goto (tgt := 4) hx hb d_X_countEmpty_33 (by decide) ?_
          have eB5 : lr_cntE E (i + 1) = (lr_cntE E i) + 1 := by show _ + (if _ then _ else _) = _; rw [if_neg c3]; rfl
          rw [← eB5] at hl
          exact ih_4 (i + 1) (by omega) _ _ _  hP hD hS (lv_sub hl [0, 1, 2] rfl)
  exact lp_4 8 0 (by omega) _ _ _  hP hD hS (lv_sub hl [0, 1, 2] rfl)

set_option maxHeartbeats 4000000 in
set_option maxRecDepth 100000 in
theorem c_X_told {l : Launch} (hlt : l.stackTraces = false) {D : va_G} {cJ cI cZ cS : ClassId} {ws : va_W} {sz base : Nat} {b N : Nat} {A : Nat → Nat} {sf : Nat → Option Nat} {K B : Nat → Nat → Int64} {E : Nat → Int32} {Km Bm : Nat → Int64} {Em : Int32} {Lf Tr nu ne : Nat → Int64} {ct : Int32} (hx0 : xAt cJ cS ws b A N sf K B E Km Bm Em Lf Tr nu ne ct) (hN1 : 1 ≤ N) (hN5 : N ≤ 5) {x : Int32} : vx_Met l y_X_told w_X_told ({ frames := 6, cells := 1, slots := 6, locals := 90 } : Room) (gx_Pc D classes (gT cJ cI cZ cS) [.ref (A 0), .int x] ws sz base) (va_Qi (fun r w => (okW x ∧ ∃ q, q ≤ 9 ∧ x = nI q ∧ ((q = 0 ∧ r = nI N) ∨ (q = 9 ∧ r = nI (lr_cntE E 8)) ∨ (q ≠ 0 ∧ q ≠ 9 ∧ r = nI (lr_count (K (q - 1)) (2 * N))))) ∧ w = ws) (gw_B D classes (gT cJ cI cZ cS) ws sz) (va_A ws sz)) (gX D classes (gT cJ cI cZ cS) ws sz (fun Z w => Z = xIOOB ∧ ¬ (okW x) ∧ w = ws)) 1 6 (va_A ws sz) := by
  refine gx_head (by decide) (Nat.le_of_ble_eq_true rfl) (fun p e s m below meth c hsz hx hb hr hlocks hml hown hnm hts hK hN hP hD hS hA hB hE hno ls hl => ?_)
  have hown : s.vm.findClass R_X = some m.cls := hown
  have hT : ∀ w ∈ wG, w ∈ Cond.code y_X_told b_X_told 2 (some .int) :: wG := gd_t _
  have hF : CallFix p m c b_X_told 2 s ([.ref (A 0), .int x] : List Value).toArray (Cond.code y_X_told b_X_told 2 (some .int) :: wG) R_X := ⟨hx, hb, hml, hown, hts⟩
  have hl : lv_has ls 2 [(0, .ref (A 0)), (1, .int x)] := hl
  obtain ⟨x0, x1, hsf, hX, ⟨s0, ⟨sko, skc⟩, ⟨sbo, sbc⟩⟩, ⟨lo, lc⟩, ⟨to, tc⟩, xn, xr⟩ := hx0
  have hn : 2 * N ≤ 10 := by omega
  have he : 2 * N % 2 = 0 := by omega
  refine lv_iload_n hx hb d_X_told_0 rfl (lv_at hl 1 rfl) ?_
  refine lv_if_lt (tgt := 10) hx hb d_X_told_1 (by decide) (fun c1 => ?_) (fun c1 => ?_)
  · exact gx_throw (k := 8) hx hb hlt hF hT (by decide +kernel) wm_1_117 wm_1_10 rfl xt1 xb1 xo1 xg1 hK hN hP hD hS hB hE hno hlocks hl.1 d_X_told_10 d_X_told_13 d_X_told_14 d_X_told_16 d_X_told_19 (Nat.le_of_ble_eq_true rfl) (Nat.le_of_ble_eq_true rfl) (Nat.le_of_ble_eq_true rfl) (Nat.le_of_ble_eq_true rfl) (Nat.le_of_ble_eq_true rfl) (Nat.le_of_ble_eq_true rfl) ⟨rfl, fun q => q.1 c1, rfl⟩
  · refine lv_iload_n hx hb d_X_told_4 rfl (lv_at hl 1 rfl) ?_
    refine lv_bipush (v := nI 9) hx hb d_X_told_5 (by decide) ?_
    refine lv_icmp_le (tgt := 20) hx hb d_X_told_7 (by decide) (fun c2 => ?_) (fun c2 => ?_)
    · have h1 : okW x := ⟨c1, c2⟩
      obtain ⟨q, hq, rfl⟩ := h1.k
      refine lv_iload_n hx hb d_X_told_20 rfl (lv_at hl 1 rfl) ?_
      refine lv_if_ne (tgt := 29) hx hb d_X_told_21 (by decide) (fun c3 => ?_) (fun c3 => ?_)
      · have c3 : ¬ (q = 0) := fun z => c3 ((nI_eq (a := q) (b := 0) (by omega) (by omega)).mpr z)
        refine lv_iload_n hx hb d_X_told_29 rfl (lv_at hl 1 rfl) ?_
        refine lv_bipush (v := nI 9) hx hb d_X_told_30 (by decide) ?_
        refine lv_icmp_ne (tgt := 42) hx hb d_X_told_32 (by decide) (fun c4 => ?_) (fun c4 => ?_)
        · have c4 : ¬ (q = 9) := fun z => c4 ((nI_eq (a := q) (b := 9) (by omega) (by omega)).mpr z)
          refine lv_aload_n hx hb d_X_told_42 rfl (lv_at hl 0 rfl) ?_
          refine gf_X_27 hF hT hK hP x0 rfl d_X_told_43 ?_
          refine lv_iload_n hx hb d_X_told_46 rfl (lv_at hl 1 rfl) ?_
          refine lv_iconst (v := nI 1) hx hb d_X_told_47 (by decide) ?_
          refine lv_isub hx hb d_X_told_48 ?_
          refine gx_i (y := nI (q - 1)) (pk_sub (by omega)) ?_
          refine g_aald (t0 := 3) (k := q - 1) hx hb hK hP x1 rfl (by omega) (by decide) (hsf (q - 1) (by omega)) d_X_told_49 ?_
          refine gf_X_89 hF hT hN hK hP (hX (q - 1) (by omega)).1.1 rfl d_X_told_50 ?_
          refine gw_ci0 (gc_X_193 (As := []) (rest := []) hF hT (c_T_countRows (hX (q - 1) (by omega)).1.2.1 hn) ⟨(Nat.le_of_ble_eq_true rfl), (Nat.le_of_ble_eq_true rfl)⟩ rfl rfl hK hN hP hD (hX (q - 1) (by omega)).1.2.1.1 rfl hl.1 rfl (Nat.le_of_ble_eq_true rfl) d_X_told_53 ⟨(Nat.le_of_ble_eq_true rfl), (Nat.le_of_ble_eq_true rfl)⟩) hD hS hA (fun r5 H locs e_r5 hP hD hS => ?_)
          subst e_r5
          exact vx_ret (gw_iret hx hb hr hlocks hK hP hD hS (Nat.le_of_ble_eq_true rfl) (Nat.le_of_ble_eq_true rfl) d_X_told_56 ⟨⟨h1, q, hq, rfl, Or.inr (Or.inr ⟨c3, c4, rfl⟩)⟩, rfl⟩)
        · have c4 := (nI_eq (a := q) (b := 9) (by omega) (by omega)).mp c4
          refine lv_aload_n hx hb d_X_told_35 rfl (lv_at hl 0 rfl) ?_
          refine gw_ci0 (gc_X_189 (As := []) (rest := []) hF hT (c_X_countEmpty ⟨x0, x1, hsf, hX, ⟨s0, ⟨sko, skc⟩, ⟨sbo, sbc⟩⟩, ⟨lo, lc⟩, ⟨to, tc⟩, xn, xr⟩ hN1 hN5) ⟨(Nat.le_of_ble_eq_true rfl), (Nat.le_of_ble_eq_true rfl)⟩ rfl rfl hK hN hP hD x0 rfl hl.1 rfl (Nat.le_of_ble_eq_true rfl) d_X_told_36 ⟨(Nat.le_of_ble_eq_true rfl), (Nat.le_of_ble_eq_true rfl)⟩) hD hS hA (fun r6 H locs e_r6 hP hD hS => ?_)
          subst e_r6
          refine lv_goto (tgt := 56) hx hb d_X_told_39 (by decide) ?_
          exact vx_ret (gw_iret hx hb hr hlocks hK hP hD hS (Nat.le_of_ble_eq_true rfl) (Nat.le_of_ble_eq_true rfl) d_X_told_56 ⟨⟨h1, q, hq, rfl, Or.inr (Or.inl ⟨c4, rfl⟩)⟩, rfl⟩)
      · have c3 := (nI_eq (a := q) (b := 0) (by omega) (by omega)).mp c3
        refine lv_aload_n hx hb d_X_told_24 rfl (lv_at hl 0 rfl) ?_
        refine gf_X_18 hF hT hK hP x0 rfl d_X_told_25 ?_
        exact vx_ret (gw_iret hx hb hr hlocks hK hP hD hS (Nat.le_of_ble_eq_true rfl) (Nat.le_of_ble_eq_true rfl) d_X_told_28 ⟨⟨h1, q, hq, rfl, Or.inl ⟨c3, rfl⟩⟩, rfl⟩)
    · exact gx_throw (k := 8) hx hb hlt hF hT (by decide +kernel) wm_1_117 wm_1_10 rfl xt1 xb1 xo1 xg1 hK hN hP hD hS hB hE hno hlocks hl.1 d_X_told_10 d_X_told_13 d_X_told_14 d_X_told_16 d_X_told_19 (Nat.le_of_ble_eq_true rfl) (Nat.le_of_ble_eq_true rfl) (Nat.le_of_ble_eq_true rfl) (Nat.le_of_ble_eq_true rfl) (Nat.le_of_ble_eq_true rfl) (Nat.le_of_ble_eq_true rfl) ⟨rfl, fun q => c2 q.2, rfl⟩

set_option maxHeartbeats 4000000 in
set_option maxRecDepth 100000 in
theorem c_X_needs {l : Launch} (hlt : l.stackTraces = false) {D : va_G} {cJ cI cZ cS : ClassId} {ws : va_W} {sz base : Nat} {b N : Nat} {A : Nat → Nat} {sf : Nat → Option Nat} {K B : Nat → Nat → Int64} {E : Nat → Int32} {Km Bm : Nat → Int64} {Em : Int32} {Lf Tr nu ne : Nat → Int64} {m1 : Nat} (hx0 : xAt cJ cS ws b A N sf K B E Km Bm Em Lf Tr nu ne (nI m1)) (hN1 : 1 ≤ N) (hN5 : N ≤ 5) (hm1 : m1 ≤ 2 * (N * N)) {x y : Int32} : vx_Met l y_X_needs w_X_needs ({ frames := 6, cells := 1, slots := 6, locals := 90 } : Room) (gx_Pc D classes (gT cJ cI cZ cS) [.ref (A 0), .int x, .int y] ws sz base) (va_Ql (fun r w => (okK m1 x y ∧ ∃ k, k < m1 ∧ x = nI k ∧ ∃ q, q < 3 ∧ y = nI q ∧ r = ne (3 * k + q)) ∧ w = ws) (gw_B D classes (gT cJ cI cZ cS) ws sz) (va_A ws sz)) (gX D classes (gT cJ cI cZ cS) ws sz (fun Z w => Z = xIOOB ∧ ¬ (okK m1 x y) ∧ w = ws)) 1 6 (va_A ws sz) := by
  refine gx_head (by decide) (Nat.le_of_ble_eq_true rfl) (fun p e s m below meth c hsz hx hb hr hlocks hml hown hnm hts hK hN hP hD hS hA hB hE hno ls hl => ?_)
  have hown : s.vm.findClass R_X = some m.cls := hown
  have hT : ∀ w ∈ wG, w ∈ Cond.code y_X_needs b_X_needs 3 (some .long) :: wG := gd_t _
  have hF : CallFix p m c b_X_needs 3 s ([.ref (A 0), .int x, .int y] : List Value).toArray (Cond.code y_X_needs b_X_needs 3 (some .long) :: wG) R_X := ⟨hx, hb, hml, hown, hts⟩
  have hl : lv_has ls 3 [(0, .ref (A 0)), (1, .int x), (2, .int y)] := hl
  obtain ⟨x0, x1, hsf, hX, ⟨s0, ⟨sko, skc⟩, ⟨sbo, sbc⟩⟩, ⟨lo, lc⟩, ⟨to, tc⟩, xn, xr⟩ := hx0
  have hn : 2 * N ≤ 10 := by omega
  have he : 2 * N % 2 = 0 := by omega
  have hNN := lr_nn hN5
  refine lv_iload_n hx hb d_X_needs_0 rfl (lv_at hl 1 rfl) ?_
  refine lv_if_lt (tgt := 21) hx hb d_X_needs_1 (by decide) (fun c1 => ?_) (fun c1 => ?_)
  · exact gx_throw (k := 5) hx hb hlt hF hT (by decide +kernel) wm_1_117 wm_1_10 rfl xt1 xb1 xo1 xg1 hK hN hP hD hS hB hE hno hlocks hl.1 d_X_needs_21 d_X_needs_24 d_X_needs_25 d_X_needs_27 d_X_needs_30 (Nat.le_of_ble_eq_true rfl) (Nat.le_of_ble_eq_true rfl) (Nat.le_of_ble_eq_true rfl) (Nat.le_of_ble_eq_true rfl) (Nat.le_of_ble_eq_true rfl) (Nat.le_of_ble_eq_true rfl) ⟨rfl, fun q => q.1.1 c1, rfl⟩
  · refine lv_iload_n hx hb d_X_needs_4 rfl (lv_at hl 1 rfl) ?_
    refine lv_aload_n hx hb d_X_needs_5 rfl (lv_at hl 0 rfl) ?_
    refine gf_X_55 hF hT hK hP x0 rfl d_X_needs_6 ?_
    refine lv_icmp_ge (tgt := 21) hx hb d_X_needs_9 (by decide) (fun c2 => ?_) (fun c2 => ?_)
    · exact gx_throw (k := 5) hx hb hlt hF hT (by decide +kernel) wm_1_117 wm_1_10 rfl xt1 xb1 xo1 xg1 hK hN hP hD hS hB hE hno hlocks hl.1 d_X_needs_21 d_X_needs_24 d_X_needs_25 d_X_needs_27 d_X_needs_30 (Nat.le_of_ble_eq_true rfl) (Nat.le_of_ble_eq_true rfl) (Nat.le_of_ble_eq_true rfl) (Nat.le_of_ble_eq_true rfl) (Nat.le_of_ble_eq_true rfl) (Nat.le_of_ble_eq_true rfl) ⟨rfl, fun q => q.1.2 c2, rfl⟩
    · refine lv_iload_n hx hb d_X_needs_12 rfl (lv_at hl 2 rfl) ?_
      refine lv_if_lt (tgt := 21) hx hb d_X_needs_13 (by decide) (fun c3 => ?_) (fun c3 => ?_)
      · exact gx_throw (k := 5) hx hb hlt hF hT (by decide +kernel) wm_1_117 wm_1_10 rfl xt1 xb1 xo1 xg1 hK hN hP hD hS hB hE hno hlocks hl.1 d_X_needs_21 d_X_needs_24 d_X_needs_25 d_X_needs_27 d_X_needs_30 (Nat.le_of_ble_eq_true rfl) (Nat.le_of_ble_eq_true rfl) (Nat.le_of_ble_eq_true rfl) (Nat.le_of_ble_eq_true rfl) (Nat.le_of_ble_eq_true rfl) (Nat.le_of_ble_eq_true rfl) ⟨rfl, fun q => q.2.1 c3, rfl⟩
      · refine lv_iload_n hx hb d_X_needs_16 rfl (lv_at hl 2 rfl) ?_
        refine lv_iconst (v := nI 3) hx hb d_X_needs_17 (by decide) ?_
        refine lv_icmp_lt (tgt := 31) hx hb d_X_needs_18 (by decide) (fun c4 => ?_) (fun c4 => ?_)
        · have h1 : okK m1 x y := ⟨⟨c1, c2⟩, c3, c4⟩
          obtain ⟨k, hk, rfl, q, hq, rfl⟩ := h1.k (by omega)
          refine lv_aload_n hx hb d_X_needs_31 rfl (lv_at hl 0 rfl) ?_
          refine gf_X_52 hF hT hK hP x0 rfl d_X_needs_32 ?_
          refine lv_iconst (v := nI 3) hx hb d_X_needs_35 (by decide) ?_
          refine lv_iload_n hx hb d_X_needs_36 rfl (lv_at hl 1 rfl) ?_
          refine lv_imul hx hb d_X_needs_37 ?_
          refine gx_i (y := nI (3 * k)) (pk_mul _ _) ?_
          refine lv_iload_n hx hb d_X_needs_38 rfl (lv_at hl 2 rfl) ?_
          refine lv_iadd hx hb d_X_needs_39 ?_
          refine gx_i (y := nI ((3 * k) + q)) (nI_add _ _) ?_
          refine g_lald (t0 := 0) (k := (3 * k) + q) hx hb hK hP xr rfl (by omega) (by omega) d_X_needs_40 ?_
          exact vx_ret (gw_lret hx hb hr hlocks hK hP hD hS (Nat.le_of_ble_eq_true rfl) (Nat.le_of_ble_eq_true rfl) d_X_needs_41 ⟨⟨h1, k, hk, rfl, q, hq, rfl, rfl⟩, rfl⟩)
        · exact gx_throw (k := 5) hx hb hlt hF hT (by decide +kernel) wm_1_117 wm_1_10 rfl xt1 xb1 xo1 xg1 hK hN hP hD hS hB hE hno hlocks hl.1 d_X_needs_21 d_X_needs_24 d_X_needs_25 d_X_needs_27 d_X_needs_30 (Nat.le_of_ble_eq_true rfl) (Nat.le_of_ble_eq_true rfl) (Nat.le_of_ble_eq_true rfl) (Nat.le_of_ble_eq_true rfl) (Nat.le_of_ble_eq_true rfl) (Nat.le_of_ble_eq_true rfl) ⟨rfl, fun q => c4 q.2.2, rfl⟩
