set_option maxHeartbeats 4000000 in
set_option maxRecDepth 100000 in
theorem c_X_takeMade {l : Launch} (hlt : l.stackTraces = false) {D : va_G} {cJ cI cZ cS : ClassId} {ws : va_W} {sz base : Nat} {b N : Nat} {A : Nat → Nat} {sf : Nat → Option Nat} {K B : Nat → Nat → Int64} {E : Nat → Int32} {Km Bm : Nat → Int64} {Em : Int32} {Lf Tr nu ne : Nat → Int64} {ct : Int32} (hx0 : xAt cJ cS ws b A N sf K B E Km Bm Em Lf Tr nu ne ct) (hN1 : 1 ≤ N) (hN5 : N ≤ 5) (hEm : Em = 0 ∨ Em = 1) {k : Nat} (hk : k < 8) : vx_Met l y_X_takeMade w_X_takeMade ({ frames := 6, cells := 1, slots := 6, locals := 90 } : Room) (gx_Pc D classes (gT cJ cI cZ cS) [.ref (A 0), .int (nI k)] ws sz base) (va_Qi (fun r w => (∃ K1 B1 E1, lr_tkO (2 * N) Km Bm Em (K k) (B k) K1 B1 E1 r ∧ xAt cJ cS w b A N sf (va_up K k K1) (va_up B k B1) (va_up E k E1) Km Bm Em Lf Tr nu ne ct) ∧ gF b (b + 53) ws w) (gw_B D classes (gT cJ cI cZ cS) ws sz) (va_A ws sz)) (gX D classes (gT cJ cI cZ cS) ws sz (fun Z w => Z = xARI ∧ (Em = 0 ∧ lr_tooFar Bm (2 * N)) ∧ w = ws)) 1 6 (va_A ws sz) := by
  refine gx_head (by decide) (Nat.le_of_ble_eq_true rfl) (fun p e s m below meth c hsz hx hb hr hlocks hml hown hnm hts hK hN hP hD hS hA hB hE hno ls hl => ?_)
  have hown : s.vm.findClass R_X = some m.cls := hown
  have hT : ∀ w ∈ wG, w ∈ Cond.code y_X_takeMade b_X_takeMade 2 (some .int) :: wG := gd_t _
  have hF : CallFix p m c b_X_takeMade 2 s ([.ref (A 0), .int (nI k)] : List Value).toArray (Cond.code y_X_takeMade b_X_takeMade 2 (some .int) :: wG) R_X := ⟨hx, hb, hml, hown, hts⟩
  have hl : lv_has ls 2 [(0, .ref (A 0)), (1, .int (nI k))] := hl
  obtain ⟨x0, x1, hsf, hX, ⟨s0, ⟨sko, skc⟩, ⟨sbo, sbc⟩⟩, ⟨lo, lc⟩, ⟨to, tc⟩, xn, xr⟩ := hx0
  have hn : 2 * N ≤ 10 := by omega
  have he : 2 * N % 2 = 0 := by omega
  have hfr : gF b (b + 53) ws ws := gF.rf
  refine lv_aload_n hx hb d_X_takeMade_0 rfl (lv_at hl 0 rfl) ?_
  refine gf_X_34 hF hT hK hP x0 rfl d_X_takeMade_1 ?_
  refine gf_X_123 hF hT hN hK hP s0 rfl d_X_takeMade_4 ?_
  refine lv_if_ne (tgt := 33) hx hb d_X_takeMade_7 (by decide) (fun c1 => ?_) (fun c1 => ?_)
  · refine lv_aload_n hx hb d_X_takeMade_33 rfl (lv_at hl 0 rfl) ?_
    refine gf_X_27 hF hT hK hP x0 rfl d_X_takeMade_34 ?_
    refine lv_iload_n hx hb d_X_takeMade_37 rfl (lv_at hl 1 rfl) ?_
    refine g_aald (t0 := 3) (k := k) hx hb hK hP x1 rfl (by omega) (by decide) (hsf k (by omega)) d_X_takeMade_38 ?_
    refine lv_aload_n hx hb d_X_takeMade_39 rfl (lv_at hl 0 rfl) ?_
    refine gf_X_34 hF hT hK hP x0 rfl d_X_takeMade_40 ?_
    refine gw_cv (gc_X_71 (As := [.ref (xmd A 0)]) (rest := []) hF hT (c_S_becomeLike (hX k (by omega)).1 hn he ⟨s0, ⟨sko, skc⟩, ⟨sbo, sbc⟩⟩ hEm (by omega)) ⟨(Nat.le_of_ble_eq_true rfl), (Nat.le_of_ble_eq_true rfl)⟩ rfl rfl hK hN hP hD (hX k (by omega)).1.1 rfl hl.1 rfl (Nat.le_of_ble_eq_true rfl) d_X_takeMade_43 ⟨(Nat.le_of_ble_eq_true rfl), (Nat.le_of_ble_eq_true rfl)⟩) hD hS hA (fun w H locs hw hP hD hS => ?_)
    obtain ⟨hsh, hf⟩ := hw
    have hX := hX.upd hf hsh hEm
    have x0 := hf.at x0 (by omega)
    have x1 := hf.at x1 (by omega)
    have s0 := hf.at s0 (by omega)
    have sko := hf.at sko (by omega)
    have skc := hf.at skc (by omega)
    have sbo := hf.at sbo (by omega)
    have sbc := hf.at sbc (by omega)
    have lo := hf.at lo (by omega)
    have lc := hf.at lc (by omega)
    have to := hf.at to (by omega)
    have tc := hf.at tc (by omega)
    have xn := hf.at xn (by omega)
    have xr := hf.at xr (by omega)
    have hfr := hfr.in hf (by omega) (by omega)
    refine lv_aload_n hx hb d_X_takeMade_46 rfl (lv_at hl 0 rfl) ?_
    refine gf_X_34 hF hT hK hP x0 rfl d_X_takeMade_47 ?_
    refine gf_X_123 hF hT hN hK hP s0 rfl d_X_takeMade_50 ?_
    refine lv_if_eq (tgt := 60) hx hb d_X_takeMade_53 (by decide) (fun c2 => ?_) (fun c2 => ?_)
    · refine lv_iconst (v := nI 1) hx hb d_X_takeMade_60 (by decide) ?_
      exact vx_ret (gw_iret hx hb hr hlocks hK hP hD hS (Nat.le_of_ble_eq_true rfl) (Nat.le_of_ble_eq_true rfl) d_X_takeMade_61 ⟨⟨_, _, _, ⟨Or.inl c1, ⟨rfl, rfl, rfl⟩, Or.inl ⟨c2, rfl⟩⟩, ⟨x0, x1, hsf, hX, ⟨s0, ⟨sko, skc⟩, ⟨sbo, sbc⟩⟩, ⟨lo, lc⟩, ⟨to, tc⟩, xn, xr⟩⟩, hfr⟩)
    · refine lv_iconst (v := nI 0) hx hb d_X_takeMade_56 (by decide) ?_
      refine lv_goto (tgt := 61) hx hb d_X_takeMade_57 (by decide) ?_
      exact vx_ret (gw_iret hx hb hr hlocks hK hP hD hS (Nat.le_of_ble_eq_true rfl) (Nat.le_of_ble_eq_true rfl) d_X_takeMade_61 ⟨⟨_, _, _, ⟨Or.inl c1, ⟨rfl, rfl, rfl⟩, Or.inr ⟨c2, rfl⟩⟩, ⟨x0, x1, hsf, hX, ⟨s0, ⟨sko, skc⟩, ⟨sbo, sbc⟩⟩, ⟨lo, lc⟩, ⟨to, tc⟩, xn, xr⟩⟩, hfr⟩)
  · refine lv_aload_n hx hb d_X_takeMade_10 rfl (lv_at hl 0 rfl) ?_
    refine gf_X_34 hF hT hK hP x0 rfl d_X_takeMade_11 ?_
    refine gf_X_127 hF hT hN hK hP s0 rfl d_X_takeMade_14 ?_
    refine gw_ci0 (gc_X_208 (As := []) (rest := []) hF hT (c_T_isTooFar ⟨sbo, sbc⟩ hn) ⟨(Nat.le_of_ble_eq_true rfl), (Nat.le_of_ble_eq_true rfl)⟩ rfl rfl hK hN hP hD sbo rfl hl.1 rfl (Nat.le_of_ble_eq_true rfl) d_X_takeMade_17 ⟨(Nat.le_of_ble_eq_true rfl), (Nat.le_of_ble_eq_true rfl)⟩) hD hS hA (fun r3 H locs h_r3 hP hD hS => ?_)
    refine lv_if_eq (tgt := 33) hx hb d_X_takeMade_20 (by decide) (fun c4 => ?_) (fun c4 => ?_)
    · have hfar := gb_t h_r3 c4
      refine lv_aload_n hx hb d_X_takeMade_33 rfl (lv_at hl 0 rfl) ?_
      refine gf_X_27 hF hT hK hP x0 rfl d_X_takeMade_34 ?_
      refine lv_iload_n hx hb d_X_takeMade_37 rfl (lv_at hl 1 rfl) ?_
      refine g_aald (t0 := 3) (k := k) hx hb hK hP x1 rfl (by omega) (by decide) (hsf k (by omega)) d_X_takeMade_38 ?_
      refine lv_aload_n hx hb d_X_takeMade_39 rfl (lv_at hl 0 rfl) ?_
      refine gf_X_34 hF hT hK hP x0 rfl d_X_takeMade_40 ?_
      refine gw_cv (gc_X_71 (As := [.ref (xmd A 0)]) (rest := []) hF hT (c_S_becomeLike (hX k (by omega)).1 hn he ⟨s0, ⟨sko, skc⟩, ⟨sbo, sbc⟩⟩ hEm (by omega)) ⟨(Nat.le_of_ble_eq_true rfl), (Nat.le_of_ble_eq_true rfl)⟩ rfl rfl hK hN hP hD (hX k (by omega)).1.1 rfl hl.1 rfl (Nat.le_of_ble_eq_true rfl) d_X_takeMade_43 ⟨(Nat.le_of_ble_eq_true rfl), (Nat.le_of_ble_eq_true rfl)⟩) hD hS hA (fun w H locs hw hP hD hS => ?_)
      obtain ⟨hsh, hf⟩ := hw
      have hX := hX.upd hf hsh hEm
      have x0 := hf.at x0 (by omega)
      have x1 := hf.at x1 (by omega)
      have s0 := hf.at s0 (by omega)
      have sko := hf.at sko (by omega)
      have skc := hf.at skc (by omega)
      have sbo := hf.at sbo (by omega)
      have sbc := hf.at sbc (by omega)
      have lo := hf.at lo (by omega)
      have lc := hf.at lc (by omega)
      have to := hf.at to (by omega)
      have tc := hf.at tc (by omega)
      have xn := hf.at xn (by omega)
      have xr := hf.at xr (by omega)
      have hfr := hfr.in hf (by omega) (by omega)
      refine lv_aload_n hx hb d_X_takeMade_46 rfl (lv_at hl 0 rfl) ?_
      refine gf_X_34 hF hT hK hP x0 rfl d_X_takeMade_47 ?_
      refine gf_X_123 hF hT hN hK hP s0 rfl d_X_takeMade_50 ?_
      refine lv_if_eq (tgt := 60) hx hb d_X_takeMade_53 (by decide) (fun c5 => ?_) (fun c5 => ?_)
      · refine lv_iconst (v := nI 1) hx hb d_X_takeMade_60 (by decide) ?_
        exact vx_ret (gw_iret hx hb hr hlocks hK hP hD hS (Nat.le_of_ble_eq_true rfl) (Nat.le_of_ble_eq_true rfl) d_X_takeMade_61 ⟨⟨_, _, _, ⟨Or.inr hfar, ⟨rfl, rfl, rfl⟩, Or.inl ⟨c5, rfl⟩⟩, ⟨x0, x1, hsf, hX, ⟨s0, ⟨sko, skc⟩, ⟨sbo, sbc⟩⟩, ⟨lo, lc⟩, ⟨to, tc⟩, xn, xr⟩⟩, hfr⟩)
      · refine lv_iconst (v := nI 0) hx hb d_X_takeMade_56 (by decide) ?_
        refine lv_goto (tgt := 61) hx hb d_X_takeMade_57 (by decide) ?_
        exact vx_ret (gw_iret hx hb hr hlocks hK hP hD hS (Nat.le_of_ble_eq_true rfl) (Nat.le_of_ble_eq_true rfl) d_X_takeMade_61 ⟨⟨_, _, _, ⟨Or.inr hfar, ⟨rfl, rfl, rfl⟩, Or.inr ⟨c5, rfl⟩⟩, ⟨x0, x1, hsf, hX, ⟨s0, ⟨sko, skc⟩, ⟨sbo, sbc⟩⟩, ⟨lo, lc⟩, ⟨to, tc⟩, xn, xr⟩⟩, hfr⟩)
    · have hfar := gb_f h_r3 c4
      exact gx_throw (k := 3) hx hb hlt hF hT (by decide +kernel) wm_2_81 wm_1_13 rfl xt3 xb3 xo3 xg3 hK hN hP hD hS hB hE hno hlocks hl.1 d_X_takeMade_23 d_X_takeMade_26 d_X_takeMade_27 d_X_takeMade_29 d_X_takeMade_32 (Nat.le_of_ble_eq_true rfl) (Nat.le_of_ble_eq_true rfl) (Nat.le_of_ble_eq_true rfl) (Nat.le_of_ble_eq_true rfl) (Nat.le_of_ble_eq_true rfl) (Nat.le_of_ble_eq_true rfl) ⟨rfl, ⟨c1, hfar⟩, rfl⟩

set_option maxHeartbeats 4000000 in
set_option maxRecDepth 100000 in
theorem c_X_row {l : Launch} (hlt : l.stackTraces = false) {D : va_G} {cJ cI cZ cS : ClassId} {ws : va_W} {sz base : Nat} {b N : Nat} {A : Nat → Nat} {sf : Nat → Option Nat} {K B : Nat → Nat → Int64} {E : Nat → Int32} {Km Bm : Nat → Int64} {Em : Int32} {Lf Tr nu ne : Nat → Int64} {ct : Int32} (hx0 : xAt cJ cS ws b A N sf K B E Km Bm Em Lf Tr nu ne ct) (hN1 : 1 ≤ N) (hN5 : N ≤ 5) (hEm : Em = 0 ∨ Em = 1) {x y z : Int32} {v : Int64} : vx_Met l y_X_row w_X_row ({ frames := 7, cells := 5, slots := 30, locals := 136 } : Room) (gx_Pc D classes (gT cJ cI cZ cS) [.ref (A 0), .int x, .int y, .int z, .long v] ws sz base) (va_Qi (fun r w => (okS x ∧ okT N y ∧ okT N z) ∧ okG v ∧ ∃ k, k < 8 ∧ x = nI k ∧ ∃ K1 B1 E1 K2 B2 E2, (lr_addO (lr_copy (K k) Km (2 * N * (2 * N))) (lr_copy (B k) Bm (2 * N * (2 * N))) (2 * N) (E k) y z v K1 B1 E1) ∧ lr_tkO (2 * N) K1 B1 E1 (K k) (B k) K2 B2 E2 r ∧ xAt cJ cS w b A N sf (va_up K k K2) (va_up B k B2) (va_up E k E2) K1 B1 E1 Lf Tr nu ne ct ∧ gF b (b + 53) ws w) (gw_B D classes (gT cJ cI cZ cS) ws sz) (va_A ws sz)) (gX D classes (gT cJ cI cZ cS) ws sz (fun Z w => (Z = xIOOB ∧ ¬ (okS x ∧ okT N y ∧ okT N z) ∧ w = ws) ∨ (Z = xIAE ∧ (okS x ∧ okT N y ∧ okT N z) ∧ ¬ okG v ∧ w = ws) ∨ (Z = xARI ∧ (okS x ∧ okT N y ∧ okT N z) ∧ okG v ∧ ∃ k, k < 8 ∧ x = nI k ∧ ∃ K1 B1 E1, (lr_addO (lr_copy (K k) Km (2 * N * (2 * N))) (lr_copy (B k) Bm (2 * N * (2 * N))) (2 * N) (E k) y z v K1 B1 E1) ∧ (E1 = 0 ∧ lr_tooFar B1 (2 * N)) ∧ xAt cJ cS w b A N sf K B E K1 B1 E1 Lf Tr nu ne ct ∧ gF b (b + 53) ws w))) 5 30 (va_A ws sz) := by
  refine gx_head (by decide) (Nat.le_of_ble_eq_true rfl) (fun p e s m below meth c hsz hx hb hr hlocks hml hown hnm hts hK hN hP hD hS hA hB hE hno ls hl => ?_)
  have hown : s.vm.findClass R_X = some m.cls := hown
  have hT : ∀ w ∈ wG, w ∈ Cond.code y_X_row b_X_row 6 (some .int) :: wG := gd_t _
  have hF : CallFix p m c b_X_row 6 s ([.ref (A 0), .int x, .int y, .int z, .long v] : List Value).toArray (Cond.code y_X_row b_X_row 6 (some .int) :: wG) R_X := ⟨hx, hb, hml, hown, hts⟩
  have hl : lv_has ls 6 [(0, .ref (A 0)), (1, .int x), (2, .int y), (3, .int z), (4, .long v)] := hl
  obtain ⟨x0, x1, hsf, hX, ⟨s0, ⟨sko, skc⟩, ⟨sbo, sbc⟩⟩, ⟨lo, lc⟩, ⟨to, tc⟩, xn, xr⟩ := hx0
  have hn : 2 * N ≤ 10 := by omega
  have he : 2 * N % 2 = 0 := by omega
  have hfr : gF b (b + 53) ws ws := gF.rf
  refine lv_iload_n hx hb d_X_row_0 rfl (lv_at hl 1 rfl) ?_
  refine gx_cv0 (gxc_X_58 (As := [.int x]) (rest := []) hF hT (c_X_checkShape hlt) ⟨(Nat.le_of_ble_eq_true rfl), (Nat.le_of_ble_eq_true rfl)⟩ rfl rfl (gx_pre hK hN hP hD hS hB hA hE) rfl hl.1 rfl (Nat.le_of_ble_eq_true rfl) d_X_row_1 ⟨(Nat.le_of_ble_eq_true rfl), (Nat.le_of_ble_eq_true rfl)⟩) hK hD hS hA hno hlocks (Nat.le_of_ble_eq_true rfl) (Nat.le_of_ble_eq_true rfl) (fun Z u q => by obtain ⟨q1, q2, q3⟩ := q; exact Or.inl ⟨q1, fun q => q2 q.1, q3⟩) (fun H locs h1 hP hD hS => ?_)
  obtain ⟨k, hk, rfl⟩ := h1.k
  refine lv_aload_n hx hb d_X_row_4 rfl (lv_at hl 0 rfl) ?_
  refine lv_iload_n hx hb d_X_row_5 rfl (lv_at hl 2 rfl) ?_
  refine gx_cv0 (gxc_X_64 (As := [.int y]) (rest := []) hF hT (c_X_checkTerm hlt ⟨x0, x1, hsf, hX, ⟨s0, ⟨sko, skc⟩, ⟨sbo, sbc⟩⟩, ⟨lo, lc⟩, ⟨to, tc⟩, xn, xr⟩ hN1 hN5) ⟨(Nat.le_of_ble_eq_true rfl), (Nat.le_of_ble_eq_true rfl)⟩ rfl rfl (gx_pre hK hN hP hD hS hB hA hE) hK hP x0 rfl hl.1 rfl (Nat.le_of_ble_eq_true rfl) d_X_row_6 ⟨(Nat.le_of_ble_eq_true rfl), (Nat.le_of_ble_eq_true rfl)⟩) hK hD hS hA hno hlocks (Nat.le_of_ble_eq_true rfl) (Nat.le_of_ble_eq_true rfl) (fun Z u q => by obtain ⟨q1, q2, q3⟩ := q; exact Or.inl ⟨q1, fun q => q2 q.2.1, q3⟩) (fun H locs h2 hP hD hS => ?_)
  refine lv_aload_n hx hb d_X_row_9 rfl (lv_at hl 0 rfl) ?_
  refine lv_iload_n hx hb d_X_row_10 rfl (lv_at hl 3 rfl) ?_
  refine gx_cv0 (gxc_X_64 (As := [.int z]) (rest := []) hF hT (c_X_checkTerm hlt ⟨x0, x1, hsf, hX, ⟨s0, ⟨sko, skc⟩, ⟨sbo, sbc⟩⟩, ⟨lo, lc⟩, ⟨to, tc⟩, xn, xr⟩ hN1 hN5) ⟨(Nat.le_of_ble_eq_true rfl), (Nat.le_of_ble_eq_true rfl)⟩ rfl rfl (gx_pre hK hN hP hD hS hB hA hE) hK hP x0 rfl hl.1 rfl (Nat.le_of_ble_eq_true rfl) d_X_row_11 ⟨(Nat.le_of_ble_eq_true rfl), (Nat.le_of_ble_eq_true rfl)⟩) hK hD hS hA hno hlocks (Nat.le_of_ble_eq_true rfl) (Nat.le_of_ble_eq_true rfl) (fun Z u q => by obtain ⟨q1, q2, q3⟩ := q; exact Or.inl ⟨q1, fun q => q2 q.2.2, q3⟩) (fun H locs h3 hP hD hS => ?_)
  refine lv_lload hx hb d_X_row_14 (lv_at hl 4 rfl) ?_
  refine gx_cv0 (gxc_X_67 (As := [.long v]) (rest := []) hF hT (c_X_checkGiven hlt) ⟨(Nat.le_of_ble_eq_true rfl), (Nat.le_of_ble_eq_true rfl)⟩ rfl rfl (gx_pre hK hN hP hD hS hB hA hE) rfl hl.1 rfl (Nat.le_of_ble_eq_true rfl) d_X_row_16 ⟨(Nat.le_of_ble_eq_true rfl), (Nat.le_of_ble_eq_true rfl)⟩) hK hD hS hA hno hlocks (Nat.le_of_ble_eq_true rfl) (Nat.le_of_ble_eq_true rfl) (fun Z u q => by obtain ⟨q1, q2, q3⟩ := q; exact Or.inr (Or.inl ⟨q1, ⟨h1, h2, h3⟩, q2, q3⟩)) (fun H locs h4 hP hD hS => ?_)
  refine lv_aload_n hx hb d_X_row_19 rfl (lv_at hl 0 rfl) ?_
  refine gf_X_34 hF hT hK hP x0 rfl d_X_row_20 ?_
  refine lv_aload_n hx hb d_X_row_23 rfl (lv_at hl 0 rfl) ?_
  refine gf_X_27 hF hT hK hP x0 rfl d_X_row_24 ?_
  refine lv_iload_n hx hb d_X_row_27 rfl (lv_at hl 1 rfl) ?_
  refine g_aald (t0 := 3) (k := k) hx hb hK hP x1 rfl (by omega) (by decide) (hsf k (by omega)) d_X_row_28 ?_
  refine gw_cv (gc_X_71 (As := [.ref (xsh A k 0)]) (rest := []) hF hT (c_S_becomeLike ⟨s0, ⟨sko, skc⟩, ⟨sbo, sbc⟩⟩ hn he (hX k (by omega)).1 (hX k (by omega)).2 (by omega)) ⟨(Nat.le_of_ble_eq_true rfl), (Nat.le_of_ble_eq_true rfl)⟩ rfl rfl hK hN hP hD s0 rfl hl.1 rfl (Nat.le_of_ble_eq_true rfl) d_X_row_29 ⟨(Nat.le_of_ble_eq_true rfl), (Nat.le_of_ble_eq_true rfl)⟩) hD hS hA (fun w H locs hw hP hD hS => ?_)
  obtain ⟨⟨s0, ⟨sko, skc⟩, ⟨sbo, sbc⟩⟩, hf⟩ := hw
  have hEm := (hX k (by omega)).2
  have x0 := hf.at x0 (by omega)
  have x1 := hf.at x1 (by omega)
  have lo := hf.at lo (by omega)
  have lc := hf.at lc (by omega)
  have to := hf.at to (by omega)
  have tc := hf.at tc (by omega)
  have xn := hf.at xn (by omega)
  have xr := hf.at xr (by omega)
  have hX := hX.kept hf (by omega)
  have hfr := hfr.in hf (by omega) (by omega)
  refine lv_aload_n hx hb d_X_row_32 rfl (lv_at hl 0 rfl) ?_
  refine gf_X_34 hF hT hK hP x0 rfl d_X_row_33 ?_
  refine lv_iload_n hx hb d_X_row_36 rfl (lv_at hl 2 rfl) ?_
  refine lv_iload_n hx hb d_X_row_37 rfl (lv_at hl 3 rfl) ?_
  refine lv_lload hx hb d_X_row_38 (lv_at hl 4 rfl) ?_
  refine gw_cv (gc_X_75 (As := [.int y, .int z, .long v]) (rest := []) hF hT (c_S_addRow ⟨s0, ⟨sko, skc⟩, ⟨sbo, sbc⟩⟩ hn he (h2.tm hN5) (h3.tm hN5)) ⟨(Nat.le_of_ble_eq_true rfl), (Nat.le_of_ble_eq_true rfl)⟩ rfl rfl hK hN hP hD s0 rfl hl.1 rfl (Nat.le_of_ble_eq_true rfl) d_X_row_40 ⟨(Nat.le_of_ble_eq_true rfl), (Nat.le_of_ble_eq_true rfl)⟩) hD hS hA (fun w H locs hw hP hD hS => ?_)
  obtain ⟨⟨K1, B1, E1, o1, ⟨s0, ⟨sko, skc⟩, ⟨sbo, sbc⟩⟩⟩, hf⟩ := hw
  have hEm := lr_addO_E o1 hEm
  have x0 := hf.at x0 (by omega)
  have x1 := hf.at x1 (by omega)
  have lo := hf.at lo (by omega)
  have lc := hf.at lc (by omega)
  have to := hf.at to (by omega)
  have tc := hf.at tc (by omega)
  have xn := hf.at xn (by omega)
  have xr := hf.at xr (by omega)
  have hX := hX.kept hf (by omega)
  have hfr := hfr.in hf (by omega) (by omega)
  refine lv_aload_n hx hb d_X_row_43 rfl (lv_at hl 0 rfl) ?_
  refine lv_iload_n hx hb d_X_row_44 rfl (lv_at hl 1 rfl) ?_
  refine gx_ci (gxc_X_79 (As := [.int (nI k)]) (rest := []) hF hT (c_X_takeMade hlt ⟨x0, x1, hsf, hX, ⟨s0, ⟨sko, skc⟩, ⟨sbo, sbc⟩⟩, ⟨lo, lc⟩, ⟨to, tc⟩, xn, xr⟩ hN1 hN5 hEm (k := k) (by omega)) ⟨(Nat.le_of_ble_eq_true rfl), (Nat.le_of_ble_eq_true rfl)⟩ rfl rfl (gx_pre hK hN hP hD hS hB hA hE) hK hP x0 rfl hl.1 rfl (Nat.le_of_ble_eq_true rfl) d_X_row_45 ⟨(Nat.le_of_ble_eq_true rfl), (Nat.le_of_ble_eq_true rfl)⟩) hK hD hS hA hno hlocks (Nat.le_of_ble_eq_true rfl) (Nat.le_of_ble_eq_true rfl) (fun Z u q => by obtain ⟨q1, q2, rfl⟩ := q; exact Or.inr (Or.inr ⟨q1, ⟨h1, h2, h3⟩, h4, k, by omega, rfl, _, _, _, o1, q2, ⟨x0, x1, hsf, hX, ⟨s0, ⟨sko, skc⟩, ⟨sbo, sbc⟩⟩, ⟨lo, lc⟩, ⟨to, tc⟩, xn, xr⟩, hfr⟩)) (fun r2 w H locs hw hP hD hS => ?_)
  obtain ⟨⟨K2, B2, E2, t2, x0, x1, hsf, hX, ⟨s0, ⟨sko, skc⟩, ⟨sbo, sbc⟩⟩, ⟨lo, lc⟩, ⟨to, tc⟩, xn, xr⟩, hf⟩ := hw
  have hfr := hfr.in hf (by omega) (by omega)
  exact vx_ret (gw_iret hx hb hr hlocks hK hP hD hS (Nat.le_of_ble_eq_true rfl) (Nat.le_of_ble_eq_true rfl) d_X_row_48 ⟨⟨h1, h2, h3⟩, h4, k, by omega, rfl, _, _, _, _, _, _, o1, t2, ⟨x0, x1, hsf, hX, ⟨s0, ⟨sko, skc⟩, ⟨sbo, sbc⟩⟩, ⟨lo, lc⟩, ⟨to, tc⟩, xn, xr⟩, hfr⟩)

set_option maxHeartbeats 4000000 in
set_option maxRecDepth 100000 in
theorem c_X_meet {l : Launch} (hlt : l.stackTraces = false) {D : va_G} {cJ cI cZ cS : ClassId} {ws : va_W} {sz base : Nat} {b N : Nat} {A : Nat → Nat} {sf : Nat → Option Nat} {K B : Nat → Nat → Int64} {E : Nat → Int32} {Km Bm : Nat → Int64} {Em : Int32} {Lf Tr nu ne : Nat → Int64} {ct : Int32} (hx0 : xAt cJ cS ws b A N sf K B E Km Bm Em Lf Tr nu ne ct) (hN1 : 1 ≤ N) (hN5 : N ≤ 5) (hEm : Em = 0 ∨ Em = 1) {x y z : Int32} : vx_Met l y_X_meet w_X_meet ({ frames := 8, cells := 4, slots := 24, locals := 135 } : Room) (gx_Pc D classes (gT cJ cI cZ cS) [.ref (A 0), .int x, .int y, .int z] ws sz base) (va_Qi (fun r w => (okS x ∧ okS y ∧ okS z) ∧ ∃ k, k < 8 ∧ x = nI k ∧ ∃ k2, k2 < 8 ∧ y = nI k2 ∧ ∃ k3, k3 < 8 ∧ z = nI k3 ∧ ∃ K1 B1 E1 K2 B2 E2, (lr_meetO Km Bm (2 * N) (B k2) (E k2) (B k3) (E k3) K1 B1 E1) ∧ lr_tkO (2 * N) K1 B1 E1 (K k) (B k) K2 B2 E2 r ∧ xAt cJ cS w b A N sf (va_up K k K2) (va_up B k B2) (va_up E k E2) K1 B1 E1 Lf Tr nu ne ct ∧ gF b (b + 53) ws w) (gw_B D classes (gT cJ cI cZ cS) ws sz) (va_A ws sz)) (gX D classes (gT cJ cI cZ cS) ws sz (fun Z w => (Z = xIOOB ∧ ¬ (okS x ∧ okS y ∧ okS z) ∧ w = ws) ∨ (Z = xARI ∧ (okS x ∧ okS y ∧ okS z) ∧ ∃ k, k < 8 ∧ x = nI k ∧ ∃ k2, k2 < 8 ∧ y = nI k2 ∧ ∃ k3, k3 < 8 ∧ z = nI k3 ∧ ∃ K1 B1 E1, (lr_meetO Km Bm (2 * N) (B k2) (E k2) (B k3) (E k3) K1 B1 E1) ∧ (E1 = 0 ∧ lr_tooFar B1 (2 * N)) ∧ xAt cJ cS w b A N sf K B E K1 B1 E1 Lf Tr nu ne ct ∧ gF b (b + 53) ws w))) 4 24 (va_A ws sz) := by
  refine gx_head (by decide) (Nat.le_of_ble_eq_true rfl) (fun p e s m below meth c hsz hx hb hr hlocks hml hown hnm hts hK hN hP hD hS hA hB hE hno ls hl => ?_)
  have hown : s.vm.findClass R_X = some m.cls := hown
  have hT : ∀ w ∈ wG, w ∈ Cond.code y_X_meet b_X_meet 4 (some .int) :: wG := gd_t _
  have hF : CallFix p m c b_X_meet 4 s ([.ref (A 0), .int x, .int y, .int z] : List Value).toArray (Cond.code y_X_meet b_X_meet 4 (some .int) :: wG) R_X := ⟨hx, hb, hml, hown, hts⟩
  have hl : lv_has ls 4 [(0, .ref (A 0)), (1, .int x), (2, .int y), (3, .int z)] := hl
  obtain ⟨x0, x1, hsf, hX, ⟨s0, ⟨sko, skc⟩, ⟨sbo, sbc⟩⟩, ⟨lo, lc⟩, ⟨to, tc⟩, xn, xr⟩ := hx0
  have hn : 2 * N ≤ 10 := by omega
  have he : 2 * N % 2 = 0 := by omega
  have hfr : gF b (b + 53) ws ws := gF.rf
  refine lv_iload_n hx hb d_X_meet_0 rfl (lv_at hl 1 rfl) ?_
  refine lv_iload_n hx hb d_X_meet_1 rfl (lv_at hl 2 rfl) ?_
  refine lv_iload_n hx hb d_X_meet_2 rfl (lv_at hl 3 rfl) ?_
  refine gx_cv0 (gxc_X_95 (As := [.int x, .int y, .int z]) (rest := []) hF hT (c_X_checkShapes hlt) ⟨(Nat.le_of_ble_eq_true rfl), (Nat.le_of_ble_eq_true rfl)⟩ rfl rfl (gx_pre hK hN hP hD hS hB hA hE) rfl hl.1 rfl (Nat.le_of_ble_eq_true rfl) d_X_meet_3 ⟨(Nat.le_of_ble_eq_true rfl), (Nat.le_of_ble_eq_true rfl)⟩) hK hD hS hA hno hlocks (Nat.le_of_ble_eq_true rfl) (Nat.le_of_ble_eq_true rfl) (fun Z u q => by obtain ⟨q1, q2, q3⟩ := q; exact Or.inl ⟨q1, q2, q3⟩) (fun H locs hh hP hD hS => ?_)
  obtain ⟨h1, h2, h3⟩ := hh; obtain ⟨k, hk, rfl⟩ := h1.k
  obtain ⟨k2, hk2, rfl⟩ := h2.k
  obtain ⟨k3, hk3, rfl⟩ := h3.k
  refine lv_aload_n hx hb d_X_meet_6 rfl (lv_at hl 0 rfl) ?_
  refine gf_X_34 hF hT hK hP x0 rfl d_X_meet_7 ?_
  refine lv_aload_n hx hb d_X_meet_10 rfl (lv_at hl 0 rfl) ?_
  refine gf_X_27 hF hT hK hP x0 rfl d_X_meet_11 ?_
  refine lv_iload_n hx hb d_X_meet_14 rfl (lv_at hl 2 rfl) ?_
  refine g_aald (t0 := 3) (k := k2) hx hb hK hP x1 rfl (by omega) (by decide) (hsf k2 (by omega)) d_X_meet_15 ?_
  refine lv_aload_n hx hb d_X_meet_16 rfl (lv_at hl 0 rfl) ?_
  refine gf_X_27 hF hT hK hP x0 rfl d_X_meet_17 ?_
  refine lv_iload_n hx hb d_X_meet_20 rfl (lv_at hl 3 rfl) ?_
  refine g_aald (t0 := 3) (k := k3) hx hb hK hP x1 rfl (by omega) (by decide) (hsf k3 (by omega)) d_X_meet_21 ?_
  refine gw_cv (gc_X_99 (As := [.ref (xsh A k2 0), .ref (xsh A k3 0)]) (rest := []) hF hT (c_S_becomeMeeting ⟨s0, ⟨sko, skc⟩, ⟨sbo, sbc⟩⟩ hn he (hX k2 (by omega)).1 (hX k2 (by omega)).2 (by omega) (hX k3 (by omega)).1 (hX k3 (by omega)).2 (by omega)) ⟨(Nat.le_of_ble_eq_true rfl), (Nat.le_of_ble_eq_true rfl)⟩ rfl rfl hK hN hP hD s0 rfl hl.1 rfl (Nat.le_of_ble_eq_true rfl) d_X_meet_22 ⟨(Nat.le_of_ble_eq_true rfl), (Nat.le_of_ble_eq_true rfl)⟩) hD hS hA (fun w H locs hw hP hD hS => ?_)
  obtain ⟨⟨K1, B1, E1, o1, ⟨s0, ⟨sko, skc⟩, ⟨sbo, sbc⟩⟩⟩, hf⟩ := hw
  have hEm := lr_meetO_E o1
  have x0 := hf.at x0 (by omega)
  have x1 := hf.at x1 (by omega)
  have lo := hf.at lo (by omega)
  have lc := hf.at lc (by omega)
  have to := hf.at to (by omega)
  have tc := hf.at tc (by omega)
  have xn := hf.at xn (by omega)
  have xr := hf.at xr (by omega)
  have hX := hX.kept hf (by omega)
  have hfr := hfr.in hf (by omega) (by omega)
  refine lv_aload_n hx hb d_X_meet_25 rfl (lv_at hl 0 rfl) ?_
  refine lv_iload_n hx hb d_X_meet_26 rfl (lv_at hl 1 rfl) ?_
  refine gx_ci (gxc_X_79 (As := [.int (nI k)]) (rest := []) hF hT (c_X_takeMade hlt ⟨x0, x1, hsf, hX, ⟨s0, ⟨sko, skc⟩, ⟨sbo, sbc⟩⟩, ⟨lo, lc⟩, ⟨to, tc⟩, xn, xr⟩ hN1 hN5 hEm (k := k) (by omega)) ⟨(Nat.le_of_ble_eq_true rfl), (Nat.le_of_ble_eq_true rfl)⟩ rfl rfl (gx_pre hK hN hP hD hS hB hA hE) hK hP x0 rfl hl.1 rfl (Nat.le_of_ble_eq_true rfl) d_X_meet_27 ⟨(Nat.le_of_ble_eq_true rfl), (Nat.le_of_ble_eq_true rfl)⟩) hK hD hS hA hno hlocks (Nat.le_of_ble_eq_true rfl) (Nat.le_of_ble_eq_true rfl) (fun Z u q => by obtain ⟨q1, q2, rfl⟩ := q; exact Or.inr ⟨q1, ⟨h1, h2, h3⟩, k, by omega, rfl, k2, by omega, rfl, k3, by omega, rfl, _, _, _, o1, q2, ⟨x0, x1, hsf, hX, ⟨s0, ⟨sko, skc⟩, ⟨sbo, sbc⟩⟩, ⟨lo, lc⟩, ⟨to, tc⟩, xn, xr⟩, hfr⟩) (fun r2 w H locs hw hP hD hS => ?_)
  obtain ⟨⟨K2, B2, E2, t2, x0, x1, hsf, hX, ⟨s0, ⟨sko, skc⟩, ⟨sbo, sbc⟩⟩, ⟨lo, lc⟩, ⟨to, tc⟩, xn, xr⟩, hf⟩ := hw
  have hfr := hfr.in hf (by omega) (by omega)
  exact vx_ret (gw_iret hx hb hr hlocks hK hP hD hS (Nat.le_of_ble_eq_true rfl) (Nat.le_of_ble_eq_true rfl) d_X_meet_30 ⟨⟨h1, h2, h3⟩, k, by omega, rfl, k2, by omega, rfl, k3, by omega, rfl, _, _, _, _, _, _, o1, t2, ⟨x0, x1, hsf, hX, ⟨s0, ⟨sko, skc⟩, ⟨sbo, sbc⟩⟩, ⟨lo, lc⟩, ⟨to, tc⟩, xn, xr⟩, hfr⟩)

set_option maxHeartbeats 4000000 in
set_option maxRecDepth 100000 in
theorem c_X_join {l : Launch} (hlt : l.stackTraces = false) {D : va_G} {cJ cI cZ cS : ClassId} {ws : va_W} {sz base : Nat} {b N : Nat} {A : Nat → Nat} {sf : Nat → Option Nat} {K B : Nat → Nat → Int64} {E : Nat → Int32} {Km Bm : Nat → Int64} {Em : Int32} {Lf Tr nu ne : Nat → Int64} {ct : Int32} (hx0 : xAt cJ cS ws b A N sf K B E Km Bm Em Lf Tr nu ne ct) (hN1 : 1 ≤ N) (hN5 : N ≤ 5) (hEm : Em = 0 ∨ Em = 1) {x y z : Int32} : vx_Met l y_X_join w_X_join ({ frames := 8, cells := 4, slots := 24, locals := 132 } : Room) (gx_Pc D classes (gT cJ cI cZ cS) [.ref (A 0), .int x, .int y, .int z] ws sz base) (va_Qi (fun r w => (okS x ∧ okS y ∧ okS z) ∧ ∃ k, k < 8 ∧ x = nI k ∧ ∃ k2, k2 < 8 ∧ y = nI k2 ∧ ∃ k3, k3 < 8 ∧ z = nI k3 ∧ ∃ K1 B1 E1 K2 B2 E2, (lr_joinO Km Bm (2 * N) (K k2) (B k2) (E k2) (K k3) (B k3) (E k3) K1 B1 E1) ∧ lr_tkO (2 * N) K1 B1 E1 (K k) (B k) K2 B2 E2 r ∧ xAt cJ cS w b A N sf (va_up K k K2) (va_up B k B2) (va_up E k E2) K1 B1 E1 Lf Tr nu ne ct ∧ gF b (b + 53) ws w) (gw_B D classes (gT cJ cI cZ cS) ws sz) (va_A ws sz)) (gX D classes (gT cJ cI cZ cS) ws sz (fun Z w => (Z = xIOOB ∧ ¬ (okS x ∧ okS y ∧ okS z) ∧ w = ws) ∨ (Z = xARI ∧ (okS x ∧ okS y ∧ okS z) ∧ ∃ k, k < 8 ∧ x = nI k ∧ ∃ k2, k2 < 8 ∧ y = nI k2 ∧ ∃ k3, k3 < 8 ∧ z = nI k3 ∧ ∃ K1 B1 E1, (lr_joinO Km Bm (2 * N) (K k2) (B k2) (E k2) (K k3) (B k3) (E k3) K1 B1 E1) ∧ (E1 = 0 ∧ lr_tooFar B1 (2 * N)) ∧ xAt cJ cS w b A N sf K B E K1 B1 E1 Lf Tr nu ne ct ∧ gF b (b + 53) ws w))) 4 24 (va_A ws sz) := by
  refine gx_head (by decide) (Nat.le_of_ble_eq_true rfl) (fun p e s m below meth c hsz hx hb hr hlocks hml hown hnm hts hK hN hP hD hS hA hB hE hno ls hl => ?_)
  have hown : s.vm.findClass R_X = some m.cls := hown
  have hT : ∀ w ∈ wG, w ∈ Cond.code y_X_join b_X_join 4 (some .int) :: wG := gd_t _
  have hF : CallFix p m c b_X_join 4 s ([.ref (A 0), .int x, .int y, .int z] : List Value).toArray (Cond.code y_X_join b_X_join 4 (some .int) :: wG) R_X := ⟨hx, hb, hml, hown, hts⟩
  have hl : lv_has ls 4 [(0, .ref (A 0)), (1, .int x), (2, .int y), (3, .int z)] := hl
  obtain ⟨x0, x1, hsf, hX, ⟨s0, ⟨sko, skc⟩, ⟨sbo, sbc⟩⟩, ⟨lo, lc⟩, ⟨to, tc⟩, xn, xr⟩ := hx0
  have hn : 2 * N ≤ 10 := by omega
  have he : 2 * N % 2 = 0 := by omega
  have hfr : gF b (b + 53) ws ws := gF.rf
  refine lv_iload_n hx hb d_X_join_0 rfl (lv_at hl 1 rfl) ?_
  refine lv_iload_n hx hb d_X_join_1 rfl (lv_at hl 2 rfl) ?_
  refine lv_iload_n hx hb d_X_join_2 rfl (lv_at hl 3 rfl) ?_
  refine gx_cv0 (gxc_X_95 (As := [.int x, .int y, .int z]) (rest := []) hF hT (c_X_checkShapes hlt) ⟨(Nat.le_of_ble_eq_true rfl), (Nat.le_of_ble_eq_true rfl)⟩ rfl rfl (gx_pre hK hN hP hD hS hB hA hE) rfl hl.1 rfl (Nat.le_of_ble_eq_true rfl) d_X_join_3 ⟨(Nat.le_of_ble_eq_true rfl), (Nat.le_of_ble_eq_true rfl)⟩) hK hD hS hA hno hlocks (Nat.le_of_ble_eq_true rfl) (Nat.le_of_ble_eq_true rfl) (fun Z u q => by obtain ⟨q1, q2, q3⟩ := q; exact Or.inl ⟨q1, q2, q3⟩) (fun H locs hh hP hD hS => ?_)
  obtain ⟨h1, h2, h3⟩ := hh; obtain ⟨k, hk, rfl⟩ := h1.k
  obtain ⟨k2, hk2, rfl⟩ := h2.k
  obtain ⟨k3, hk3, rfl⟩ := h3.k
  refine lv_aload_n hx hb d_X_join_6 rfl (lv_at hl 0 rfl) ?_
  refine gf_X_34 hF hT hK hP x0 rfl d_X_join_7 ?_
  refine lv_aload_n hx hb d_X_join_10 rfl (lv_at hl 0 rfl) ?_
  refine gf_X_27 hF hT hK hP x0 rfl d_X_join_11 ?_
  refine lv_iload_n hx hb d_X_join_14 rfl (lv_at hl 2 rfl) ?_
  refine g_aald (t0 := 3) (k := k2) hx hb hK hP x1 rfl (by omega) (by decide) (hsf k2 (by omega)) d_X_join_15 ?_
  refine lv_aload_n hx hb d_X_join_16 rfl (lv_at hl 0 rfl) ?_
  refine gf_X_27 hF hT hK hP x0 rfl d_X_join_17 ?_
  refine lv_iload_n hx hb d_X_join_20 rfl (lv_at hl 3 rfl) ?_
  refine g_aald (t0 := 3) (k := k3) hx hb hK hP x1 rfl (by omega) (by decide) (hsf k3 (by omega)) d_X_join_21 ?_
  refine gw_cv (gc_X_103 (As := [.ref (xsh A k2 0), .ref (xsh A k3 0)]) (rest := []) hF hT (c_S_becomeJoin ⟨s0, ⟨sko, skc⟩, ⟨sbo, sbc⟩⟩ hn he (hX k2 (by omega)).1 (hX k2 (by omega)).2 (by omega) (hX k3 (by omega)).1 (hX k3 (by omega)).2 (by omega)) ⟨(Nat.le_of_ble_eq_true rfl), (Nat.le_of_ble_eq_true rfl)⟩ rfl rfl hK hN hP hD s0 rfl hl.1 rfl (Nat.le_of_ble_eq_true rfl) d_X_join_22 ⟨(Nat.le_of_ble_eq_true rfl), (Nat.le_of_ble_eq_true rfl)⟩) hD hS hA (fun w H locs hw hP hD hS => ?_)
  obtain ⟨⟨K1, B1, E1, o1, ⟨s0, ⟨sko, skc⟩, ⟨sbo, sbc⟩⟩⟩, hf⟩ := hw
  have hEm := lr_joinO_E o1 (hX k2 (by omega)).2 (hX k3 (by omega)).2
  have x0 := hf.at x0 (by omega)
  have x1 := hf.at x1 (by omega)
  have lo := hf.at lo (by omega)
  have lc := hf.at lc (by omega)
  have to := hf.at to (by omega)
  have tc := hf.at tc (by omega)
  have xn := hf.at xn (by omega)
  have xr := hf.at xr (by omega)
  have hX := hX.kept hf (by omega)
  have hfr := hfr.in hf (by omega) (by omega)
  refine lv_aload_n hx hb d_X_join_25 rfl (lv_at hl 0 rfl) ?_
  refine lv_iload_n hx hb d_X_join_26 rfl (lv_at hl 1 rfl) ?_
  refine gx_ci (gxc_X_79 (As := [.int (nI k)]) (rest := []) hF hT (c_X_takeMade hlt ⟨x0, x1, hsf, hX, ⟨s0, ⟨sko, skc⟩, ⟨sbo, sbc⟩⟩, ⟨lo, lc⟩, ⟨to, tc⟩, xn, xr⟩ hN1 hN5 hEm (k := k) (by omega)) ⟨(Nat.le_of_ble_eq_true rfl), (Nat.le_of_ble_eq_true rfl)⟩ rfl rfl (gx_pre hK hN hP hD hS hB hA hE) hK hP x0 rfl hl.1 rfl (Nat.le_of_ble_eq_true rfl) d_X_join_27 ⟨(Nat.le_of_ble_eq_true rfl), (Nat.le_of_ble_eq_true rfl)⟩) hK hD hS hA hno hlocks (Nat.le_of_ble_eq_true rfl) (Nat.le_of_ble_eq_true rfl) (fun Z u q => by obtain ⟨q1, q2, rfl⟩ := q; exact Or.inr ⟨q1, ⟨h1, h2, h3⟩, k, by omega, rfl, k2, by omega, rfl, k3, by omega, rfl, _, _, _, o1, q2, ⟨x0, x1, hsf, hX, ⟨s0, ⟨sko, skc⟩, ⟨sbo, sbc⟩⟩, ⟨lo, lc⟩, ⟨to, tc⟩, xn, xr⟩, hfr⟩) (fun r2 w H locs hw hP hD hS => ?_)
  obtain ⟨⟨K2, B2, E2, t2, x0, x1, hsf, hX, ⟨s0, ⟨sko, skc⟩, ⟨sbo, sbc⟩⟩, ⟨lo, lc⟩, ⟨to, tc⟩, xn, xr⟩, hf⟩ := hw
  have hfr := hfr.in hf (by omega) (by omega)
  exact vx_ret (gw_iret hx hb hr hlocks hK hP hD hS (Nat.le_of_ble_eq_true rfl) (Nat.le_of_ble_eq_true rfl) d_X_join_30 ⟨⟨h1, h2, h3⟩, k, by omega, rfl, k2, by omega, rfl, k3, by omega, rfl, _, _, _, _, _, _, o1, t2, ⟨x0, x1, hsf, hX, ⟨s0, ⟨sko, skc⟩, ⟨sbo, sbc⟩⟩, ⟨lo, lc⟩, ⟨to, tc⟩, xn, xr⟩, hfr⟩)

set_option maxHeartbeats 4000000 in
set_option maxRecDepth 100000 in
theorem c_X_widen {l : Launch} (hlt : l.stackTraces = false) {D : va_G} {cJ cI cZ cS : ClassId} {ws : va_W} {sz base : Nat} {b N : Nat} {A : Nat → Nat} {sf : Nat → Option Nat} {K B : Nat → Nat → Int64} {E : Nat → Int32} {Km Bm : Nat → Int64} {Em : Int32} {Lf Tr nu ne : Nat → Int64} {ct : Int32} (hx0 : xAt cJ cS ws b A N sf K B E Km Bm Em Lf Tr nu ne ct) (hN1 : 1 ≤ N) (hN5 : N ≤ 5) (hEm : Em = 0 ∨ Em = 1) {x y z : Int32} : vx_Met l y_X_widen w_X_widen ({ frames := 8, cells := 4, slots := 24, locals := 137 } : Room) (gx_Pc D classes (gT cJ cI cZ cS) [.ref (A 0), .int x, .int y, .int z] ws sz base) (va_Qi (fun r w => (okS x ∧ okS y ∧ okS z) ∧ ∃ k, k < 8 ∧ x = nI k ∧ ∃ k2, k2 < 8 ∧ y = nI k2 ∧ ∃ k3, k3 < 8 ∧ z = nI k3 ∧ ∃ K1 B1 E1 K2 B2 E2, (lr_widO Km Bm (2 * N) (K k2) (B k2) (E k2) (K k3) (B k3) (E k3) K1 B1 E1) ∧ lr_tkO (2 * N) K1 B1 E1 (K k) (B k) K2 B2 E2 r ∧ xAt cJ cS w b A N sf (va_up K k K2) (va_up B k B2) (va_up E k E2) K1 B1 E1 Lf Tr nu ne ct ∧ gF b (b + 53) ws w) (gw_B D classes (gT cJ cI cZ cS) ws sz) (va_A ws sz)) (gX D classes (gT cJ cI cZ cS) ws sz (fun Z w => (Z = xIOOB ∧ ¬ (okS x ∧ okS y ∧ okS z) ∧ w = ws) ∨ (Z = xARI ∧ (okS x ∧ okS y ∧ okS z) ∧ ∃ k, k < 8 ∧ x = nI k ∧ ∃ k2, k2 < 8 ∧ y = nI k2 ∧ ∃ k3, k3 < 8 ∧ z = nI k3 ∧ ∃ K1 B1 E1, (lr_widO Km Bm (2 * N) (K k2) (B k2) (E k2) (K k3) (B k3) (E k3) K1 B1 E1) ∧ (E1 = 0 ∧ lr_tooFar B1 (2 * N)) ∧ xAt cJ cS w b A N sf K B E K1 B1 E1 Lf Tr nu ne ct ∧ gF b (b + 53) ws w))) 4 24 (va_A ws sz) := by
  refine gx_head (by decide) (Nat.le_of_ble_eq_true rfl) (fun p e s m below meth c hsz hx hb hr hlocks hml hown hnm hts hK hN hP hD hS hA hB hE hno ls hl => ?_)
  have hown : s.vm.findClass R_X = some m.cls := hown
  have hT : ∀ w ∈ wG, w ∈ Cond.code y_X_widen b_X_widen 4 (some .int) :: wG := gd_t _
  have hF : CallFix p m c b_X_widen 4 s ([.ref (A 0), .int x, .int y, .int z] : List Value).toArray (Cond.code y_X_widen b_X_widen 4 (some .int) :: wG) R_X := ⟨hx, hb, hml, hown, hts⟩
  have hl : lv_has ls 4 [(0, .ref (A 0)), (1, .int x), (2, .int y), (3, .int z)] := hl
  obtain ⟨x0, x1, hsf, hX, ⟨s0, ⟨sko, skc⟩, ⟨sbo, sbc⟩⟩, ⟨lo, lc⟩, ⟨to, tc⟩, xn, xr⟩ := hx0
  have hn : 2 * N ≤ 10 := by omega
  have he : 2 * N % 2 = 0 := by omega
  have hfr : gF b (b + 53) ws ws := gF.rf
  refine lv_iload_n hx hb d_X_widen_0 rfl (lv_at hl 1 rfl) ?_
  refine lv_iload_n hx hb d_X_widen_1 rfl (lv_at hl 2 rfl) ?_
  refine lv_iload_n hx hb d_X_widen_2 rfl (lv_at hl 3 rfl) ?_
  refine gx_cv0 (gxc_X_95 (As := [.int x, .int y, .int z]) (rest := []) hF hT (c_X_checkShapes hlt) ⟨(Nat.le_of_ble_eq_true rfl), (Nat.le_of_ble_eq_true rfl)⟩ rfl rfl (gx_pre hK hN hP hD hS hB hA hE) rfl hl.1 rfl (Nat.le_of_ble_eq_true rfl) d_X_widen_3 ⟨(Nat.le_of_ble_eq_true rfl), (Nat.le_of_ble_eq_true rfl)⟩) hK hD hS hA hno hlocks (Nat.le_of_ble_eq_true rfl) (Nat.le_of_ble_eq_true rfl) (fun Z u q => by obtain ⟨q1, q2, q3⟩ := q; exact Or.inl ⟨q1, q2, q3⟩) (fun H locs hh hP hD hS => ?_)
  obtain ⟨h1, h2, h3⟩ := hh; obtain ⟨k, hk, rfl⟩ := h1.k
  obtain ⟨k2, hk2, rfl⟩ := h2.k
  obtain ⟨k3, hk3, rfl⟩ := h3.k
  refine lv_aload_n hx hb d_X_widen_6 rfl (lv_at hl 0 rfl) ?_
  refine gf_X_34 hF hT hK hP x0 rfl d_X_widen_7 ?_
  refine lv_aload_n hx hb d_X_widen_10 rfl (lv_at hl 0 rfl) ?_
  refine gf_X_27 hF hT hK hP x0 rfl d_X_widen_11 ?_
  refine lv_iload_n hx hb d_X_widen_14 rfl (lv_at hl 2 rfl) ?_
  refine g_aald (t0 := 3) (k := k2) hx hb hK hP x1 rfl (by omega) (by decide) (hsf k2 (by omega)) d_X_widen_15 ?_
  refine lv_aload_n hx hb d_X_widen_16 rfl (lv_at hl 0 rfl) ?_
  refine gf_X_27 hF hT hK hP x0 rfl d_X_widen_17 ?_
  refine lv_iload_n hx hb d_X_widen_20 rfl (lv_at hl 3 rfl) ?_
  refine g_aald (t0 := 3) (k := k3) hx hb hK hP x1 rfl (by omega) (by decide) (hsf k3 (by omega)) d_X_widen_21 ?_
  refine gw_cv (gc_X_106 (As := [.ref (xsh A k2 0), .ref (xsh A k3 0)]) (rest := []) hF hT (c_S_becomeWidened ⟨s0, ⟨sko, skc⟩, ⟨sbo, sbc⟩⟩ hn he (hX k2 (by omega)).1 (hX k2 (by omega)).2 (by omega) (hX k3 (by omega)).1 (hX k3 (by omega)).2 (by omega)) ⟨(Nat.le_of_ble_eq_true rfl), (Nat.le_of_ble_eq_true rfl)⟩ rfl rfl hK hN hP hD s0 rfl hl.1 rfl (Nat.le_of_ble_eq_true rfl) d_X_widen_22 ⟨(Nat.le_of_ble_eq_true rfl), (Nat.le_of_ble_eq_true rfl)⟩) hD hS hA (fun w H locs hw hP hD hS => ?_)
  obtain ⟨⟨K1, B1, E1, o1, ⟨s0, ⟨sko, skc⟩, ⟨sbo, sbc⟩⟩⟩, hf⟩ := hw
  have hEm := lr_widO_E o1 (hX k2 (by omega)).2 (hX k3 (by omega)).2
  have x0 := hf.at x0 (by omega)
  have x1 := hf.at x1 (by omega)
  have lo := hf.at lo (by omega)
  have lc := hf.at lc (by omega)
  have to := hf.at to (by omega)
  have tc := hf.at tc (by omega)
  have xn := hf.at xn (by omega)
  have xr := hf.at xr (by omega)
  have hX := hX.kept hf (by omega)
  have hfr := hfr.in hf (by omega) (by omega)
  refine lv_aload_n hx hb d_X_widen_25 rfl (lv_at hl 0 rfl) ?_
  refine lv_iload_n hx hb d_X_widen_26 rfl (lv_at hl 1 rfl) ?_
  refine gx_ci (gxc_X_79 (As := [.int (nI k)]) (rest := []) hF hT (c_X_takeMade hlt ⟨x0, x1, hsf, hX, ⟨s0, ⟨sko, skc⟩, ⟨sbo, sbc⟩⟩, ⟨lo, lc⟩, ⟨to, tc⟩, xn, xr⟩ hN1 hN5 hEm (k := k) (by omega)) ⟨(Nat.le_of_ble_eq_true rfl), (Nat.le_of_ble_eq_true rfl)⟩ rfl rfl (gx_pre hK hN hP hD hS hB hA hE) hK hP x0 rfl hl.1 rfl (Nat.le_of_ble_eq_true rfl) d_X_widen_27 ⟨(Nat.le_of_ble_eq_true rfl), (Nat.le_of_ble_eq_true rfl)⟩) hK hD hS hA hno hlocks (Nat.le_of_ble_eq_true rfl) (Nat.le_of_ble_eq_true rfl) (fun Z u q => by obtain ⟨q1, q2, rfl⟩ := q; exact Or.inr ⟨q1, ⟨h1, h2, h3⟩, k, by omega, rfl, k2, by omega, rfl, k3, by omega, rfl, _, _, _, o1, q2, ⟨x0, x1, hsf, hX, ⟨s0, ⟨sko, skc⟩, ⟨sbo, sbc⟩⟩, ⟨lo, lc⟩, ⟨to, tc⟩, xn, xr⟩, hfr⟩) (fun r2 w H locs hw hP hD hS => ?_)
  obtain ⟨⟨K2, B2, E2, t2, x0, x1, hsf, hX, ⟨s0, ⟨sko, skc⟩, ⟨sbo, sbc⟩⟩, ⟨lo, lc⟩, ⟨to, tc⟩, xn, xr⟩, hf⟩ := hw
  have hfr := hfr.in hf (by omega) (by omega)
  exact vx_ret (gw_iret hx hb hr hlocks hK hP hD hS (Nat.le_of_ble_eq_true rfl) (Nat.le_of_ble_eq_true rfl) d_X_widen_30 ⟨⟨h1, h2, h3⟩, k, by omega, rfl, k2, by omega, rfl, k3, by omega, rfl, _, _, _, _, _, _, o1, t2, ⟨x0, x1, hsf, hX, ⟨s0, ⟨sko, skc⟩, ⟨sbo, sbc⟩⟩, ⟨lo, lc⟩, ⟨to, tc⟩, xn, xr⟩, hfr⟩)

set_option maxHeartbeats 4000000 in
set_option maxRecDepth 100000 in
theorem c_X_narrow {l : Launch} (hlt : l.stackTraces = false) {D : va_G} {cJ cI cZ cS : ClassId} {ws : va_W} {sz base : Nat} {b N : Nat} {A : Nat → Nat} {sf : Nat → Option Nat} {K B : Nat → Nat → Int64} {E : Nat → Int32} {Km Bm : Nat → Int64} {Em : Int32} {Lf Tr nu ne : Nat → Int64} {ct : Int32} (hx0 : xAt cJ cS ws b A N sf K B E Km Bm Em Lf Tr nu ne ct) (hN1 : 1 ≤ N) (hN5 : N ≤ 5) (hEm : Em = 0 ∨ Em = 1) {x y z : Int32} : vx_Met l y_X_narrow w_X_narrow ({ frames := 8, cells := 4, slots := 24, locals := 136 } : Room) (gx_Pc D classes (gT cJ cI cZ cS) [.ref (A 0), .int x, .int y, .int z] ws sz base) (va_Qi (fun r w => (okS x ∧ okS y ∧ okS z) ∧ ∃ k, k < 8 ∧ x = nI k ∧ ∃ k2, k2 < 8 ∧ y = nI k2 ∧ ∃ k3, k3 < 8 ∧ z = nI k3 ∧ ∃ K1 B1 E1 K2 B2 E2, (lr_narO Km Bm (2 * N) (K k2) (B k2) (E k2) (B k3) (E k3) K1 B1 E1) ∧ lr_tkO (2 * N) K1 B1 E1 (K k) (B k) K2 B2 E2 r ∧ xAt cJ cS w b A N sf (va_up K k K2) (va_up B k B2) (va_up E k E2) K1 B1 E1 Lf Tr nu ne ct ∧ gF b (b + 53) ws w) (gw_B D classes (gT cJ cI cZ cS) ws sz) (va_A ws sz)) (gX D classes (gT cJ cI cZ cS) ws sz (fun Z w => (Z = xIOOB ∧ ¬ (okS x ∧ okS y ∧ okS z) ∧ w = ws) ∨ (Z = xARI ∧ (okS x ∧ okS y ∧ okS z) ∧ ∃ k, k < 8 ∧ x = nI k ∧ ∃ k2, k2 < 8 ∧ y = nI k2 ∧ ∃ k3, k3 < 8 ∧ z = nI k3 ∧ ∃ K1 B1 E1, (lr_narO Km Bm (2 * N) (K k2) (B k2) (E k2) (B k3) (E k3) K1 B1 E1) ∧ (E1 = 0 ∧ lr_tooFar B1 (2 * N)) ∧ xAt cJ cS w b A N sf K B E K1 B1 E1 Lf Tr nu ne ct ∧ gF b (b + 53) ws w))) 4 24 (va_A ws sz) := by
  refine gx_head (by decide) (Nat.le_of_ble_eq_true rfl) (fun p e s m below meth c hsz hx hb hr hlocks hml hown hnm hts hK hN hP hD hS hA hB hE hno ls hl => ?_)
  have hown : s.vm.findClass R_X = some m.cls := hown
  have hT : ∀ w ∈ wG, w ∈ Cond.code y_X_narrow b_X_narrow 4 (some .int) :: wG := gd_t _
  have hF : CallFix p m c b_X_narrow 4 s ([.ref (A 0), .int x, .int y, .int z] : List Value).toArray (Cond.code y_X_narrow b_X_narrow 4 (some .int) :: wG) R_X := ⟨hx, hb, hml, hown, hts⟩
  have hl : lv_has ls 4 [(0, .ref (A 0)), (1, .int x), (2, .int y), (3, .int z)] := hl
  obtain ⟨x0, x1, hsf, hX, ⟨s0, ⟨sko, skc⟩, ⟨sbo, sbc⟩⟩, ⟨lo, lc⟩, ⟨to, tc⟩, xn, xr⟩ := hx0
  have hn : 2 * N ≤ 10 := by omega
  have he : 2 * N % 2 = 0 := by omega
  have hfr : gF b (b + 53) ws ws := gF.rf
  refine lv_iload_n hx hb d_X_narrow_0 rfl (lv_at hl 1 rfl) ?_
  refine lv_iload_n hx hb d_X_narrow_1 rfl (lv_at hl 2 rfl) ?_
  refine lv_iload_n hx hb d_X_narrow_2 rfl (lv_at hl 3 rfl) ?_
  refine gx_cv0 (gxc_X_95 (As := [.int x, .int y, .int z]) (rest := []) hF hT (c_X_checkShapes hlt) ⟨(Nat.le_of_ble_eq_true rfl), (Nat.le_of_ble_eq_true rfl)⟩ rfl rfl (gx_pre hK hN hP hD hS hB hA hE) rfl hl.1 rfl (Nat.le_of_ble_eq_true rfl) d_X_narrow_3 ⟨(Nat.le_of_ble_eq_true rfl), (Nat.le_of_ble_eq_true rfl)⟩) hK hD hS hA hno hlocks (Nat.le_of_ble_eq_true rfl) (Nat.le_of_ble_eq_true rfl) (fun Z u q => by obtain ⟨q1, q2, q3⟩ := q; exact Or.inl ⟨q1, q2, q3⟩) (fun H locs hh hP hD hS => ?_)
  obtain ⟨h1, h2, h3⟩ := hh; obtain ⟨k, hk, rfl⟩ := h1.k
  obtain ⟨k2, hk2, rfl⟩ := h2.k
  obtain ⟨k3, hk3, rfl⟩ := h3.k
  refine lv_aload_n hx hb d_X_narrow_6 rfl (lv_at hl 0 rfl) ?_
  refine gf_X_34 hF hT hK hP x0 rfl d_X_narrow_7 ?_
  refine lv_aload_n hx hb d_X_narrow_10 rfl (lv_at hl 0 rfl) ?_
  refine gf_X_27 hF hT hK hP x0 rfl d_X_narrow_11 ?_
  refine lv_iload_n hx hb d_X_narrow_14 rfl (lv_at hl 2 rfl) ?_
  refine g_aald (t0 := 3) (k := k2) hx hb hK hP x1 rfl (by omega) (by decide) (hsf k2 (by omega)) d_X_narrow_15 ?_
  refine lv_aload_n hx hb d_X_narrow_16 rfl (lv_at hl 0 rfl) ?_
  refine gf_X_27 hF hT hK hP x0 rfl d_X_narrow_17 ?_
  refine lv_iload_n hx hb d_X_narrow_20 rfl (lv_at hl 3 rfl) ?_
  refine g_aald (t0 := 3) (k := k3) hx hb hK hP x1 rfl (by omega) (by decide) (hsf k3 (by omega)) d_X_narrow_21 ?_
  refine gw_cv (gc_X_109 (As := [.ref (xsh A k2 0), .ref (xsh A k3 0)]) (rest := []) hF hT (c_S_becomeNarrowed ⟨s0, ⟨sko, skc⟩, ⟨sbo, sbc⟩⟩ hn he (hX k2 (by omega)).1 (hX k2 (by omega)).2 (by omega) (hX k3 (by omega)).1 (hX k3 (by omega)).2 (by omega)) ⟨(Nat.le_of_ble_eq_true rfl), (Nat.le_of_ble_eq_true rfl)⟩ rfl rfl hK hN hP hD s0 rfl hl.1 rfl (Nat.le_of_ble_eq_true rfl) d_X_narrow_22 ⟨(Nat.le_of_ble_eq_true rfl), (Nat.le_of_ble_eq_true rfl)⟩) hD hS hA (fun w H locs hw hP hD hS => ?_)
  obtain ⟨⟨K1, B1, E1, o1, ⟨s0, ⟨sko, skc⟩, ⟨sbo, sbc⟩⟩⟩, hf⟩ := hw
  have hEm := lr_narO_E o1
  have x0 := hf.at x0 (by omega)
  have x1 := hf.at x1 (by omega)
  have lo := hf.at lo (by omega)
  have lc := hf.at lc (by omega)
  have to := hf.at to (by omega)
  have tc := hf.at tc (by omega)
  have xn := hf.at xn (by omega)
  have xr := hf.at xr (by omega)
  have hX := hX.kept hf (by omega)
  have hfr := hfr.in hf (by omega) (by omega)
  refine lv_aload_n hx hb d_X_narrow_25 rfl (lv_at hl 0 rfl) ?_
  refine lv_iload_n hx hb d_X_narrow_26 rfl (lv_at hl 1 rfl) ?_
  refine gx_ci (gxc_X_79 (As := [.int (nI k)]) (rest := []) hF hT (c_X_takeMade hlt ⟨x0, x1, hsf, hX, ⟨s0, ⟨sko, skc⟩, ⟨sbo, sbc⟩⟩, ⟨lo, lc⟩, ⟨to, tc⟩, xn, xr⟩ hN1 hN5 hEm (k := k) (by omega)) ⟨(Nat.le_of_ble_eq_true rfl), (Nat.le_of_ble_eq_true rfl)⟩ rfl rfl (gx_pre hK hN hP hD hS hB hA hE) hK hP x0 rfl hl.1 rfl (Nat.le_of_ble_eq_true rfl) d_X_narrow_27 ⟨(Nat.le_of_ble_eq_true rfl), (Nat.le_of_ble_eq_true rfl)⟩) hK hD hS hA hno hlocks (Nat.le_of_ble_eq_true rfl) (Nat.le_of_ble_eq_true rfl) (fun Z u q => by obtain ⟨q1, q2, rfl⟩ := q; exact Or.inr ⟨q1, ⟨h1, h2, h3⟩, k, by omega, rfl, k2, by omega, rfl, k3, by omega, rfl, _, _, _, o1, q2, ⟨x0, x1, hsf, hX, ⟨s0, ⟨sko, skc⟩, ⟨sbo, sbc⟩⟩, ⟨lo, lc⟩, ⟨to, tc⟩, xn, xr⟩, hfr⟩) (fun r2 w H locs hw hP hD hS => ?_)
  obtain ⟨⟨K2, B2, E2, t2, x0, x1, hsf, hX, ⟨s0, ⟨sko, skc⟩, ⟨sbo, sbc⟩⟩, ⟨lo, lc⟩, ⟨to, tc⟩, xn, xr⟩, hf⟩ := hw
  have hfr := hfr.in hf (by omega) (by omega)
  exact vx_ret (gw_iret hx hb hr hlocks hK hP hD hS (Nat.le_of_ble_eq_true rfl) (Nat.le_of_ble_eq_true rfl) d_X_narrow_30 ⟨⟨h1, h2, h3⟩, k, by omega, rfl, k2, by omega, rfl, k3, by omega, rfl, _, _, _, _, _, _, o1, t2, ⟨x0, x1, hsf, hX, ⟨s0, ⟨sko, skc⟩, ⟨sbo, sbc⟩⟩, ⟨lo, lc⟩, ⟨to, tc⟩, xn, xr⟩, hfr⟩)

set_option maxHeartbeats 4000000 in
set_option maxRecDepth 100000 in
theorem c_X_set {l : Launch} (hlt : l.stackTraces = false) {D : va_G} {cJ cI cZ cS : ClassId} {ws : va_W} {sz base : Nat} {b N : Nat} {A : Nat → Nat} {sf : Nat → Option Nat} {K B : Nat → Nat → Int64} {E : Nat → Int32} {Km Bm : Nat → Int64} {Em : Int32} {Lf Tr nu ne : Nat → Int64} {ct : Int32} (hx0 : xAt cJ cS ws b A N sf K B E Km Bm Em Lf Tr nu ne ct) (hN1 : 1 ≤ N) (hN5 : N ≤ 5) (hEm : Em = 0 ∨ Em = 1) {x y z : Int32} {v : Int64} : vx_Met l y_X_set w_X_set ({ frames := 7, cells := 5, slots := 30, locals := 116 } : Room) (gx_Pc D classes (gT cJ cI cZ cS) [.ref (A 0), .int x, .int y, .int z, .long v] ws sz base) (va_Qi (fun r w => (okS x ∧ okN N y ∧ okT N z) ∧ okG v ∧ ∃ k, k < 8 ∧ x = nI k ∧ ∃ K1 B1 E1 K2 B2 E2, (lr_asgO Km Bm (2 * N) (B k) (E k) y z v K1 B1 E1) ∧ lr_tkO (2 * N) K1 B1 E1 (K k) (B k) K2 B2 E2 r ∧ xAt cJ cS w b A N sf (va_up K k K2) (va_up B k B2) (va_up E k E2) K1 B1 E1 Lf Tr nu ne ct ∧ gF b (b + 53) ws w) (gw_B D classes (gT cJ cI cZ cS) ws sz) (va_A ws sz)) (gX D classes (gT cJ cI cZ cS) ws sz (fun Z w => (Z = xIOOB ∧ ¬ (okS x ∧ okN N y ∧ okT N z) ∧ w = ws) ∨ (Z = xIAE ∧ (okS x ∧ okN N y ∧ okT N z) ∧ ¬ okG v ∧ w = ws) ∨ (Z = xARI ∧ (okS x ∧ okN N y ∧ okT N z) ∧ okG v ∧ ∃ k, k < 8 ∧ x = nI k ∧ ∃ K1 B1 E1, (lr_asgO Km Bm (2 * N) (B k) (E k) y z v K1 B1 E1) ∧ (E1 = 0 ∧ lr_tooFar B1 (2 * N)) ∧ xAt cJ cS w b A N sf K B E K1 B1 E1 Lf Tr nu ne ct ∧ gF b (b + 53) ws w))) 5 30 (va_A ws sz) := by
  refine gx_head (by decide) (Nat.le_of_ble_eq_true rfl) (fun p e s m below meth c hsz hx hb hr hlocks hml hown hnm hts hK hN hP hD hS hA hB hE hno ls hl => ?_)
  have hown : s.vm.findClass R_X = some m.cls := hown
  have hT : ∀ w ∈ wG, w ∈ Cond.code y_X_set b_X_set 6 (some .int) :: wG := gd_t _
  have hF : CallFix p m c b_X_set 6 s ([.ref (A 0), .int x, .int y, .int z, .long v] : List Value).toArray (Cond.code y_X_set b_X_set 6 (some .int) :: wG) R_X := ⟨hx, hb, hml, hown, hts⟩
  have hl : lv_has ls 6 [(0, .ref (A 0)), (1, .int x), (2, .int y), (3, .int z), (4, .long v)] := hl
  obtain ⟨x0, x1, hsf, hX, ⟨s0, ⟨sko, skc⟩, ⟨sbo, sbc⟩⟩, ⟨lo, lc⟩, ⟨to, tc⟩, xn, xr⟩ := hx0
  have hn : 2 * N ≤ 10 := by omega
  have he : 2 * N % 2 = 0 := by omega
  have hfr : gF b (b + 53) ws ws := gF.rf
  refine lv_iload_n hx hb d_X_set_0 rfl (lv_at hl 1 rfl) ?_
  refine gx_cv0 (gxc_X_58 (As := [.int x]) (rest := []) hF hT (c_X_checkShape hlt) ⟨(Nat.le_of_ble_eq_true rfl), (Nat.le_of_ble_eq_true rfl)⟩ rfl rfl (gx_pre hK hN hP hD hS hB hA hE) rfl hl.1 rfl (Nat.le_of_ble_eq_true rfl) d_X_set_1 ⟨(Nat.le_of_ble_eq_true rfl), (Nat.le_of_ble_eq_true rfl)⟩) hK hD hS hA hno hlocks (Nat.le_of_ble_eq_true rfl) (Nat.le_of_ble_eq_true rfl) (fun Z u q => by obtain ⟨q1, q2, q3⟩ := q; exact Or.inl ⟨q1, fun q => q2 q.1, q3⟩) (fun H locs h1 hP hD hS => ?_)
  obtain ⟨k, hk, rfl⟩ := h1.k
  refine lv_aload_n hx hb d_X_set_4 rfl (lv_at hl 0 rfl) ?_
  refine lv_iload_n hx hb d_X_set_5 rfl (lv_at hl 2 rfl) ?_
  refine gx_cv0 (gxc_X_112 (As := [.int y]) (rest := []) hF hT (c_X_checkName hlt ⟨x0, x1, hsf, hX, ⟨s0, ⟨sko, skc⟩, ⟨sbo, sbc⟩⟩, ⟨lo, lc⟩, ⟨to, tc⟩, xn, xr⟩ hN1 hN5) ⟨(Nat.le_of_ble_eq_true rfl), (Nat.le_of_ble_eq_true rfl)⟩ rfl rfl (gx_pre hK hN hP hD hS hB hA hE) hK hP x0 rfl hl.1 rfl (Nat.le_of_ble_eq_true rfl) d_X_set_6 ⟨(Nat.le_of_ble_eq_true rfl), (Nat.le_of_ble_eq_true rfl)⟩) hK hD hS hA hno hlocks (Nat.le_of_ble_eq_true rfl) (Nat.le_of_ble_eq_true rfl) (fun Z u q => by obtain ⟨q1, q2, q3⟩ := q; exact Or.inl ⟨q1, fun q => q2 q.2.1, q3⟩) (fun H locs h2 hP hD hS => ?_)
  refine lv_aload_n hx hb d_X_set_9 rfl (lv_at hl 0 rfl) ?_
  refine lv_iload_n hx hb d_X_set_10 rfl (lv_at hl 3 rfl) ?_
  refine gx_cv0 (gxc_X_64 (As := [.int z]) (rest := []) hF hT (c_X_checkTerm hlt ⟨x0, x1, hsf, hX, ⟨s0, ⟨sko, skc⟩, ⟨sbo, sbc⟩⟩, ⟨lo, lc⟩, ⟨to, tc⟩, xn, xr⟩ hN1 hN5) ⟨(Nat.le_of_ble_eq_true rfl), (Nat.le_of_ble_eq_true rfl)⟩ rfl rfl (gx_pre hK hN hP hD hS hB hA hE) hK hP x0 rfl hl.1 rfl (Nat.le_of_ble_eq_true rfl) d_X_set_11 ⟨(Nat.le_of_ble_eq_true rfl), (Nat.le_of_ble_eq_true rfl)⟩) hK hD hS hA hno hlocks (Nat.le_of_ble_eq_true rfl) (Nat.le_of_ble_eq_true rfl) (fun Z u q => by obtain ⟨q1, q2, q3⟩ := q; exact Or.inl ⟨q1, fun q => q2 q.2.2, q3⟩) (fun H locs h3 hP hD hS => ?_)
  refine lv_lload hx hb d_X_set_14 (lv_at hl 4 rfl) ?_
  refine gx_cv0 (gxc_X_67 (As := [.long v]) (rest := []) hF hT (c_X_checkGiven hlt) ⟨(Nat.le_of_ble_eq_true rfl), (Nat.le_of_ble_eq_true rfl)⟩ rfl rfl (gx_pre hK hN hP hD hS hB hA hE) rfl hl.1 rfl (Nat.le_of_ble_eq_true rfl) d_X_set_16 ⟨(Nat.le_of_ble_eq_true rfl), (Nat.le_of_ble_eq_true rfl)⟩) hK hD hS hA hno hlocks (Nat.le_of_ble_eq_true rfl) (Nat.le_of_ble_eq_true rfl) (fun Z u q => by obtain ⟨q1, q2, q3⟩ := q; exact Or.inr (Or.inl ⟨q1, ⟨h1, h2, h3⟩, q2, q3⟩)) (fun H locs h4 hP hD hS => ?_)
  refine lv_aload_n hx hb d_X_set_19 rfl (lv_at hl 0 rfl) ?_
  refine gf_X_34 hF hT hK hP x0 rfl d_X_set_20 ?_
  refine lv_aload_n hx hb d_X_set_23 rfl (lv_at hl 0 rfl) ?_
  refine gf_X_27 hF hT hK hP x0 rfl d_X_set_24 ?_
  refine lv_iload_n hx hb d_X_set_27 rfl (lv_at hl 1 rfl) ?_
  refine g_aald (t0 := 3) (k := k) hx hb hK hP x1 rfl (by omega) (by decide) (hsf k (by omega)) d_X_set_28 ?_
  refine lv_iload_n hx hb d_X_set_29 rfl (lv_at hl 2 rfl) ?_
  refine lv_iload_n hx hb d_X_set_30 rfl (lv_at hl 3 rfl) ?_
  refine lv_lload hx hb d_X_set_31 (lv_at hl 4 rfl) ?_
  refine gw_cv (gc_X_115 (As := [.ref (xsh A k 0), .int y, .int z, .long v]) (rest := []) hF hT (c_S_becomeAssigned ⟨s0, ⟨sko, skc⟩, ⟨sbo, sbc⟩⟩ hn he (hX k (by omega)).1 (hX k (by omega)).2 (by omega) (h3.tm hN5)) ⟨(Nat.le_of_ble_eq_true rfl), (Nat.le_of_ble_eq_true rfl)⟩ rfl rfl hK hN hP hD s0 rfl hl.1 rfl (Nat.le_of_ble_eq_true rfl) d_X_set_33 ⟨(Nat.le_of_ble_eq_true rfl), (Nat.le_of_ble_eq_true rfl)⟩) hD hS hA (fun w H locs hw hP hD hS => ?_)
  obtain ⟨⟨K1, B1, E1, o1, ⟨s0, ⟨sko, skc⟩, ⟨sbo, sbc⟩⟩⟩, hf⟩ := hw
  have hEm := lr_asgO_E o1
  have x0 := hf.at x0 (by omega)
  have x1 := hf.at x1 (by omega)
  have lo := hf.at lo (by omega)
  have lc := hf.at lc (by omega)
  have to := hf.at to (by omega)
  have tc := hf.at tc (by omega)
  have xn := hf.at xn (by omega)
  have xr := hf.at xr (by omega)
  have hX := hX.kept hf (by omega)
  have hfr := hfr.in hf (by omega) (by omega)
  refine lv_aload_n hx hb d_X_set_36 rfl (lv_at hl 0 rfl) ?_
  refine lv_iload_n hx hb d_X_set_37 rfl (lv_at hl 1 rfl) ?_
  refine gx_ci (gxc_X_79 (As := [.int (nI k)]) (rest := []) hF hT (c_X_takeMade hlt ⟨x0, x1, hsf, hX, ⟨s0, ⟨sko, skc⟩, ⟨sbo, sbc⟩⟩, ⟨lo, lc⟩, ⟨to, tc⟩, xn, xr⟩ hN1 hN5 hEm (k := k) (by omega)) ⟨(Nat.le_of_ble_eq_true rfl), (Nat.le_of_ble_eq_true rfl)⟩ rfl rfl (gx_pre hK hN hP hD hS hB hA hE) hK hP x0 rfl hl.1 rfl (Nat.le_of_ble_eq_true rfl) d_X_set_38 ⟨(Nat.le_of_ble_eq_true rfl), (Nat.le_of_ble_eq_true rfl)⟩) hK hD hS hA hno hlocks (Nat.le_of_ble_eq_true rfl) (Nat.le_of_ble_eq_true rfl) (fun Z u q => by obtain ⟨q1, q2, rfl⟩ := q; exact Or.inr (Or.inr ⟨q1, ⟨h1, h2, h3⟩, h4, k, by omega, rfl, _, _, _, o1, q2, ⟨x0, x1, hsf, hX, ⟨s0, ⟨sko, skc⟩, ⟨sbo, sbc⟩⟩, ⟨lo, lc⟩, ⟨to, tc⟩, xn, xr⟩, hfr⟩)) (fun r2 w H locs hw hP hD hS => ?_)
  obtain ⟨⟨K2, B2, E2, t2, x0, x1, hsf, hX, ⟨s0, ⟨sko, skc⟩, ⟨sbo, sbc⟩⟩, ⟨lo, lc⟩, ⟨to, tc⟩, xn, xr⟩, hf⟩ := hw
  have hfr := hfr.in hf (by omega) (by omega)
  exact vx_ret (gw_iret hx hb hr hlocks hK hP hD hS (Nat.le_of_ble_eq_true rfl) (Nat.le_of_ble_eq_true rfl) d_X_set_41 ⟨⟨h1, h2, h3⟩, h4, k, by omega, rfl, _, _, _, _, _, _, o1, t2, ⟨x0, x1, hsf, hX, ⟨s0, ⟨sko, skc⟩, ⟨sbo, sbc⟩⟩, ⟨lo, lc⟩, ⟨to, tc⟩, xn, xr⟩, hfr⟩)

set_option maxHeartbeats 4000000 in
set_option maxRecDepth 100000 in
theorem c_X_forget {l : Launch} (hlt : l.stackTraces = false) {D : va_G} {cJ cI cZ cS : ClassId} {ws : va_W} {sz base : Nat} {b N : Nat} {A : Nat → Nat} {sf : Nat → Option Nat} {K B : Nat → Nat → Int64} {E : Nat → Int32} {Km Bm : Nat → Int64} {Em : Int32} {Lf Tr nu ne : Nat → Int64} {ct : Int32} (hx0 : xAt cJ cS ws b A N sf K B E Km Bm Em Lf Tr nu ne ct) (hN1 : 1 ≤ N) (hN5 : N ≤ 5) (hEm : Em = 0 ∨ Em = 1) {x y : Int32} : vx_Met l y_X_forget w_X_forget ({ frames := 7, cells := 3, slots := 18, locals := 111 } : Room) (gx_Pc D classes (gT cJ cI cZ cS) [.ref (A 0), .int x, .int y] ws sz base) (va_Qi (fun r w => (okS x ∧ okN N y) ∧ ∃ k, k < 8 ∧ x = nI k ∧ ∃ K1 B1 E1 K2 B2 E2, (lr_freeO Km Bm (2 * N) (K k) (B k) (E k) y K1 B1 E1) ∧ lr_tkO (2 * N) K1 B1 E1 (K k) (B k) K2 B2 E2 r ∧ xAt cJ cS w b A N sf (va_up K k K2) (va_up B k B2) (va_up E k E2) K1 B1 E1 Lf Tr nu ne ct ∧ gF b (b + 53) ws w) (gw_B D classes (gT cJ cI cZ cS) ws sz) (va_A ws sz)) (gX D classes (gT cJ cI cZ cS) ws sz (fun Z w => (Z = xIOOB ∧ ¬ (okS x ∧ okN N y) ∧ w = ws) ∨ (Z = xARI ∧ (okS x ∧ okN N y) ∧ ∃ k, k < 8 ∧ x = nI k ∧ ∃ K1 B1 E1, (lr_freeO Km Bm (2 * N) (K k) (B k) (E k) y K1 B1 E1) ∧ (E1 = 0 ∧ lr_tooFar B1 (2 * N)) ∧ xAt cJ cS w b A N sf K B E K1 B1 E1 Lf Tr nu ne ct ∧ gF b (b + 53) ws w))) 3 18 (va_A ws sz) := by
  refine gx_head (by decide) (Nat.le_of_ble_eq_true rfl) (fun p e s m below meth c hsz hx hb hr hlocks hml hown hnm hts hK hN hP hD hS hA hB hE hno ls hl => ?_)
  have hown : s.vm.findClass R_X = some m.cls := hown
  have hT : ∀ w ∈ wG, w ∈ Cond.code y_X_forget b_X_forget 3 (some .int) :: wG := gd_t _
  have hF : CallFix p m c b_X_forget 3 s ([.ref (A 0), .int x, .int y] : List Value).toArray (Cond.code y_X_forget b_X_forget 3 (some .int) :: wG) R_X := ⟨hx, hb, hml, hown, hts⟩
  have hl : lv_has ls 3 [(0, .ref (A 0)), (1, .int x), (2, .int y)] := hl
  obtain ⟨x0, x1, hsf, hX, ⟨s0, ⟨sko, skc⟩, ⟨sbo, sbc⟩⟩, ⟨lo, lc⟩, ⟨to, tc⟩, xn, xr⟩ := hx0
  have hn : 2 * N ≤ 10 := by omega
  have he : 2 * N % 2 = 0 := by omega
  have hfr : gF b (b + 53) ws ws := gF.rf
  refine lv_iload_n hx hb d_X_forget_0 rfl (lv_at hl 1 rfl) ?_
  refine gx_cv0 (gxc_X_58 (As := [.int x]) (rest := []) hF hT (c_X_checkShape hlt) ⟨(Nat.le_of_ble_eq_true rfl), (Nat.le_of_ble_eq_true rfl)⟩ rfl rfl (gx_pre hK hN hP hD hS hB hA hE) rfl hl.1 rfl (Nat.le_of_ble_eq_true rfl) d_X_forget_1 ⟨(Nat.le_of_ble_eq_true rfl), (Nat.le_of_ble_eq_true rfl)⟩) hK hD hS hA hno hlocks (Nat.le_of_ble_eq_true rfl) (Nat.le_of_ble_eq_true rfl) (fun Z u q => by obtain ⟨q1, q2, q3⟩ := q; exact Or.inl ⟨q1, fun q => q2 q.1, q3⟩) (fun H locs h1 hP hD hS => ?_)
  obtain ⟨k, hk, rfl⟩ := h1.k
  refine lv_aload_n hx hb d_X_forget_4 rfl (lv_at hl 0 rfl) ?_
  refine lv_iload_n hx hb d_X_forget_5 rfl (lv_at hl 2 rfl) ?_
  refine gx_cv0 (gxc_X_112 (As := [.int y]) (rest := []) hF hT (c_X_checkName hlt ⟨x0, x1, hsf, hX, ⟨s0, ⟨sko, skc⟩, ⟨sbo, sbc⟩⟩, ⟨lo, lc⟩, ⟨to, tc⟩, xn, xr⟩ hN1 hN5) ⟨(Nat.le_of_ble_eq_true rfl), (Nat.le_of_ble_eq_true rfl)⟩ rfl rfl (gx_pre hK hN hP hD hS hB hA hE) hK hP x0 rfl hl.1 rfl (Nat.le_of_ble_eq_true rfl) d_X_forget_6 ⟨(Nat.le_of_ble_eq_true rfl), (Nat.le_of_ble_eq_true rfl)⟩) hK hD hS hA hno hlocks (Nat.le_of_ble_eq_true rfl) (Nat.le_of_ble_eq_true rfl) (fun Z u q => by obtain ⟨q1, q2, q3⟩ := q; exact Or.inl ⟨q1, fun q => q2 q.2, q3⟩) (fun H locs h2 hP hD hS => ?_)
  refine lv_aload_n hx hb d_X_forget_9 rfl (lv_at hl 0 rfl) ?_
  refine gf_X_34 hF hT hK hP x0 rfl d_X_forget_10 ?_
  refine lv_aload_n hx hb d_X_forget_13 rfl (lv_at hl 0 rfl) ?_
  refine gf_X_27 hF hT hK hP x0 rfl d_X_forget_14 ?_
  refine lv_iload_n hx hb d_X_forget_17 rfl (lv_at hl 1 rfl) ?_
  refine g_aald (t0 := 3) (k := k) hx hb hK hP x1 rfl (by omega) (by decide) (hsf k (by omega)) d_X_forget_18 ?_
  refine lv_iload_n hx hb d_X_forget_19 rfl (lv_at hl 2 rfl) ?_
  refine gw_cv (gc_X_119 (As := [.ref (xsh A k 0), .int y]) (rest := []) hF hT (c_S_becomeFree ⟨s0, ⟨sko, skc⟩, ⟨sbo, sbc⟩⟩ hn he (hX k (by omega)).1 (hX k (by omega)).2 (by omega) (h2.tm hN5) h2.nz) ⟨(Nat.le_of_ble_eq_true rfl), (Nat.le_of_ble_eq_true rfl)⟩ rfl rfl hK hN hP hD s0 rfl hl.1 rfl (Nat.le_of_ble_eq_true rfl) d_X_forget_20 ⟨(Nat.le_of_ble_eq_true rfl), (Nat.le_of_ble_eq_true rfl)⟩) hD hS hA (fun w H locs hw hP hD hS => ?_)
  obtain ⟨⟨K1, B1, E1, o1, ⟨s0, ⟨sko, skc⟩, ⟨sbo, sbc⟩⟩⟩, hf⟩ := hw
  have hEm := lr_freeO_E o1 (hX k (by omega)).2
  have x0 := hf.at x0 (by omega)
  have x1 := hf.at x1 (by omega)
  have lo := hf.at lo (by omega)
  have lc := hf.at lc (by omega)
  have to := hf.at to (by omega)
  have tc := hf.at tc (by omega)
  have xn := hf.at xn (by omega)
  have xr := hf.at xr (by omega)
  have hX := hX.kept hf (by omega)
  have hfr := hfr.in hf (by omega) (by omega)
  refine lv_aload_n hx hb d_X_forget_23 rfl (lv_at hl 0 rfl) ?_
  refine lv_iload_n hx hb d_X_forget_24 rfl (lv_at hl 1 rfl) ?_
  refine gx_ci (gxc_X_79 (As := [.int (nI k)]) (rest := []) hF hT (c_X_takeMade hlt ⟨x0, x1, hsf, hX, ⟨s0, ⟨sko, skc⟩, ⟨sbo, sbc⟩⟩, ⟨lo, lc⟩, ⟨to, tc⟩, xn, xr⟩ hN1 hN5 hEm (k := k) (by omega)) ⟨(Nat.le_of_ble_eq_true rfl), (Nat.le_of_ble_eq_true rfl)⟩ rfl rfl (gx_pre hK hN hP hD hS hB hA hE) hK hP x0 rfl hl.1 rfl (Nat.le_of_ble_eq_true rfl) d_X_forget_25 ⟨(Nat.le_of_ble_eq_true rfl), (Nat.le_of_ble_eq_true rfl)⟩) hK hD hS hA hno hlocks (Nat.le_of_ble_eq_true rfl) (Nat.le_of_ble_eq_true rfl) (fun Z u q => by obtain ⟨q1, q2, rfl⟩ := q; exact Or.inr ⟨q1, ⟨h1, h2⟩, k, by omega, rfl, _, _, _, o1, q2, ⟨x0, x1, hsf, hX, ⟨s0, ⟨sko, skc⟩, ⟨sbo, sbc⟩⟩, ⟨lo, lc⟩, ⟨to, tc⟩, xn, xr⟩, hfr⟩) (fun r2 w H locs hw hP hD hS => ?_)
  obtain ⟨⟨K2, B2, E2, t2, x0, x1, hsf, hX, ⟨s0, ⟨sko, skc⟩, ⟨sbo, sbc⟩⟩, ⟨lo, lc⟩, ⟨to, tc⟩, xn, xr⟩, hf⟩ := hw
  have hfr := hfr.in hf (by omega) (by omega)
  exact vx_ret (gw_iret hx hb hr hlocks hK hP hD hS (Nat.le_of_ble_eq_true rfl) (Nat.le_of_ble_eq_true rfl) d_X_forget_28 ⟨⟨h1, h2⟩, k, by omega, rfl, _, _, _, _, _, _, o1, t2, ⟨x0, x1, hsf, hX, ⟨s0, ⟨sko, skc⟩, ⟨sbo, sbc⟩⟩, ⟨lo, lc⟩, ⟨to, tc⟩, xn, xr⟩, hfr⟩)
