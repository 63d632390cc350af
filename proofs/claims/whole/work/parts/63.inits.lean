set_option maxHeartbeats 4000000 in
set_option maxRecDepth 100000 in
theorem c_T_init {l : Launch} {D : va_G} {cJ cI cZ cS : ClassId} {ws : va_W} {sz : Nat} {j h n : Nat} (o0 : ws[j]? = some (h, .inr (0, [.int 0, .null]))) (hlen : ws.length = j + 1) (hn : n ≤ 10) : Met l y_T_init w_T_init ({ frames := 2, cells := 1, slots := 100, locals := 24 } : Room) (gw_Pc D classes (gT cJ cI cZ cS) [.ref h, .int (nI n)] ws sz) (va_Qv (fun w => (∃ g, tbAt cJ w j h g n (lr_K0 n)) ∧ gK j ws w ∧ w.length = j + 2) (gw_B D classes (gT cJ cI cZ cS) ws sz) (va_A ws sz)) 1 100 (va_A ws sz) := by
  refine gw_head (by decide) (Nat.le_of_ble_eq_true rfl) (fun p e s m below meth c hsz hx hb hr hlocks hml hown hnm hts hK hN hP hD hS hA ls hl => ?_)
  have hown : s.vm.findClass R_T = some m.cls := hown
  have hT : ∀ w ∈ wG, w ∈ Cond.code y_T_init b_T_init 2 none :: wG := gd_t _
  have hF : CallFix p m c b_T_init 2 s ([.ref h, .int (nI n)] : List Value).toArray (Cond.code y_T_init b_T_init 2 none :: wG) R_T := ⟨hx, hb, hml, hown, hts⟩
  have hl : lv_has ls 2 [(0, .ref h), (1, .int (nI n))] := hl
  have hsq := lr_sq1 hn
  have hfr : gK j ws ws := gK.rf
  refine lv_aload_n hx hb d_T_init_0 rfl (lv_at hl 0 rfl) ?_
  refine W.objInit hx hb hown (hts _ (hT _ wm_1_40)) (hts _ (hT _ wm_1_20)) (hts _ (hT _ wm_1_21)) rfl (by rw [hml]; exact hl.1) rfl d_T_init_1 (Nat.le_of_ble_eq_true rfl) (Nat.le_of_ble_eq_true rfl) ?_
  refine W.eq (g2 := F0 m 4 ls []) rfl ?_
  refine lv_aload_n hx hb d_T_init_4 rfl (lv_at hl 0 rfl) ?_
  refine lv_iload_n hx hb d_T_init_5 rfl (lv_at hl 1 rfl) ?_
  refine gp_T_9 hF hT hnm hK hP hD hS (fs1 := [.int (nI n), .null]) o0 rfl rfl (Nat.le_of_ble_eq_true rfl) rfl d_T_init_6 (fun w H locs o0 hf hP hD hS => ?_)
  have hfr := hfr.f hf (by omega)
  have hlen := hf.2.trans hlen
  refine lv_aload_n hx hb d_T_init_9 rfl (lv_at hl 0 rfl) ?_
  refine lv_iload_n hx hb d_T_init_10 rfl (lv_at hl 1 rfl) ?_
  refine lv_iload_n hx hb d_T_init_11 rfl (lv_at hl 1 rfl) ?_
  refine lv_imul hx hb d_T_init_12 ?_
  refine gx_i (y := nI (n * n)) (pk_mul _ _) ?_
  refine g_newJ (L := j + 1) (t0 := 0) (k := n * n) hF hT hK hP hD hS hA rfl (by omega) (by omega) (by show _ ≤ 1; omega) (by show _ ≤ 100; first | omega | (have := lr_sq1 hn; omega)) d_T_init_13 (fun w q13 H n13 hfA hP hD hS => ?_)
  have o0 := hfA.at o0 (by omega)
  have hfr := hfr.a hfA (by omega)
  have hlen := hfA.2
  refine gp_T_15 hF hT hnm hK hP hD hS (fs1 := [.int (nI n), .ref q13]) o0 rfl rfl (Nat.le_of_ble_eq_true rfl) rfl d_T_init_15 (fun w H locs o0 hf hP hD hS => ?_)
  have n13 := hf.at n13 (by omega)
  have hfr := hfr.f hf (by omega)
  have hlen := hf.2.trans hlen
  refine lv_aload_n hx hb d_T_init_18 rfl (lv_at hl 0 rfl) ?_
  refine gf_T_15 hF hT hK hP o0 rfl d_T_init_19 ?_
  refine lv_ldc2 (v := lr_E) hx hb hown (hts _ (hT _ wm_1_41)) d_T_init_22 ?_
  refine gw_cv (gc_T_21 (As := [.ref q13, .long lr_E]) (rest := []) hF hT (c_JA_fill n13 (by omega)) ⟨(Nat.le_of_ble_eq_true rfl), (Nat.le_of_ble_eq_true rfl)⟩ rfl rfl hK hN hP hD rfl hl.1 rfl (Nat.le_of_ble_eq_true rfl) d_T_init_25 ⟨(by show _ ≤ 1; omega), (by show _ ≤ 100; first | omega | (have := lr_sq1 hn; omega))⟩) hD hS hA (fun w H locs hw hP hD hS => ?_)
  obtain ⟨n13, hf⟩ := hw
  have o0 := hf.at o0 (by omega)
  have hfr := hfr.f hf (by omega)
  have hlen := hf.2.trans hlen
  exact gw_vret hx hb hr hlocks hK hP hD hS (by omega) (by first | omega | (have := lr_sq1 hn; omega)) d_T_init_28 ⟨⟨_, o0, n13⟩, hfr, hlen⟩

set_option maxHeartbeats 4000000 in
set_option maxRecDepth 100000 in
theorem c_S_init {l : Launch} {D : va_G} {cJ cI cZ cS : ClassId} {ws : va_W} {sz : Nat} {j h n : Nat} (o0 : ws[j]? = some (h, .inr (1, [.int 0, .null, .null, .int 0]))) (hlen : ws.length = j + 1) (hn : n ≤ 10) (he : n % 2 = 0) : Met l y_S_init w_S_init ({ frames := 3, cells := 4, slots := 204, locals := 45 } : Room) (gw_Pc D classes (gT cJ cI cZ cS) [.ref h, .int (nI n)] ws sz) (va_Qv (fun w => (∃ a, a 0 = h ∧ shAt cJ w j a n (lr_K0 n) (lr_B0 n) (nI 0)) ∧ gK j ws w ∧ w.length = j + 5) (gw_B D classes (gT cJ cI cZ cS) ws sz) (va_A ws sz)) 4 204 (va_A ws sz) := by
  refine gw_head (by decide) (Nat.le_of_ble_eq_true rfl) (fun p e s m below meth c hsz hx hb hr hlocks hml hown hnm hts hK hN hP hD hS hA ls hl => ?_)
  have hown : s.vm.findClass R_S = some m.cls := hown
  have hT : ∀ w ∈ wG, w ∈ Cond.code y_S_init b_S_init 2 none :: wG := gd_t _
  have hF : CallFix p m c b_S_init 2 s ([.ref h, .int (nI n)] : List Value).toArray (Cond.code y_S_init b_S_init 2 none :: wG) R_S := ⟨hx, hb, hml, hown, hts⟩
  have hl : lv_has ls 2 [(0, .ref h), (1, .int (nI n))] := hl
  have hfr : gK j ws ws := gK.rf
  refine lv_aload_n hx hb d_S_init_0 rfl (lv_at hl 0 rfl) ?_
  refine W.objInit hx hb hown (hts _ (hT _ wm_1_34)) (hts _ (hT _ wm_1_20)) (hts _ (hT _ wm_1_21)) rfl (by rw [hml]; exact hl.1) rfl d_S_init_1 (Nat.le_of_ble_eq_true rfl) (Nat.le_of_ble_eq_true rfl) ?_
  refine W.eq (g2 := F0 m 4 ls []) rfl ?_
  refine lv_aload_n hx hb d_S_init_4 rfl (lv_at hl 0 rfl) ?_
  refine lv_iload_n hx hb d_S_init_5 rfl (lv_at hl 1 rfl) ?_
  refine gp_S_9 hF hT hnm hK hP hD hS (fs1 := [.int (nI n), .null, .null, .int 0]) o0 rfl rfl (Nat.le_of_ble_eq_true rfl) rfl d_S_init_6 (fun w H locs o0 hf hP hD hS => ?_)
  have hfr := hfr.f hf (by omega)
  have hlen := hf.2.trans hlen
  refine lv_aload_n hx hb d_S_init_9 rfl (lv_at hl 0 rfl) ?_
  refine g_new (L := j + 1) (T := F_T) (N := 2) (ci := 0) (fs := [.int 0, .null]) hF hT wu_T tt_T tt_T_ok wm_1_35 wm_1_36 wm_1_4 hK hP hD hS hA rfl (fun j hj => by rcases (show j = 0 ∨ j = 1 by omega) with rfl | rfl <;> rfl) (by omega) (by show _ ≤ 4; omega) (by show _ ≤ 204; first | omega | (have := lr_sq1 hn; omega)) d_S_init_10 (fun w q10 H n10 hfA hP hD hS => ?_)
  have o0 := hfA.at o0 (by omega)
  have hfr := hfr.a hfA (by omega)
  have hlen := hfA.2
  refine lv_dup hx hb d_S_init_13 rfl ?_
  refine lv_iload_n hx hb d_S_init_14 rfl (lv_at hl 1 rfl) ?_
  refine gw_cv (gc_S_17 (As := [.int (nI n)]) (rest := [.ref q10, .ref h]) hF hT (c_T_init n10 hlen hn) ⟨(Nat.le_of_ble_eq_true rfl), (Nat.le_of_ble_eq_true rfl)⟩ rfl rfl hK hN hP hD rfl hl.1 rfl (Nat.le_of_ble_eq_true rfl) d_S_init_15 ⟨(by show _ ≤ 4; omega), (by show _ ≤ 204; first | omega | (have := lr_sq1 hn; omega))⟩) hD hS hA (fun w H locs hw hP hD hS => ?_)
  obtain ⟨⟨g15, n10, n10c⟩, hfK, hlen⟩ := hw
  have o0 := hfK.at o0 (by omega)
  have hfr := hfr.k hfK (by omega)
  refine gp_S_20 hF hT hnm hK hP hD hS (fs1 := [.int (nI n), .ref q10, .null, .int 0]) o0 rfl rfl (Nat.le_of_ble_eq_true rfl) rfl d_S_init_18 (fun w H locs o0 hf hP hD hS => ?_)
  have n10 := hf.at n10 (by omega)
  have n10c := hf.at n10c (by omega)
  have hfr := hfr.f hf (by omega)
  have hlen := hf.2.trans hlen
  refine lv_aload_n hx hb d_S_init_21 rfl (lv_at hl 0 rfl) ?_
  refine g_new (L := j + 3) (T := F_T) (N := 2) (ci := 0) (fs := [.int 0, .null]) hF hT wu_T tt_T tt_T_ok wm_1_35 wm_1_36 wm_1_4 hK hP hD hS hA rfl (fun j hj => by rcases (show j = 0 ∨ j = 1 by omega) with rfl | rfl <;> rfl) (by omega) (by show _ ≤ 4; omega) (by show _ ≤ 204; first | omega | (have := lr_sq1 hn; omega)) d_S_init_22 (fun w q22 H n22 hfA hP hD hS => ?_)
  have o0 := hfA.at o0 (by omega)
  have n10 := hfA.at n10 (by omega)
  have n10c := hfA.at n10c (by omega)
  have hfr := hfr.a hfA (by omega)
  have hlen := hfA.2
  refine lv_dup hx hb d_S_init_25 rfl ?_
  refine lv_iload_n hx hb d_S_init_26 rfl (lv_at hl 1 rfl) ?_
  refine gw_cv (gc_S_17 (As := [.int (nI n)]) (rest := [.ref q22, .ref h]) hF hT (c_T_init n22 hlen hn) ⟨(Nat.le_of_ble_eq_true rfl), (Nat.le_of_ble_eq_true rfl)⟩ rfl rfl hK hN hP hD rfl hl.1 rfl (Nat.le_of_ble_eq_true rfl) d_S_init_27 ⟨(by show _ ≤ 4; omega), (by show _ ≤ 204; first | omega | (have := lr_sq1 hn; omega))⟩) hD hS hA (fun w H locs hw hP hD hS => ?_)
  obtain ⟨⟨g27, n22, n22c⟩, hfK, hlen⟩ := hw
  have o0 := hfK.at o0 (by omega)
  have n10 := hfK.at n10 (by omega)
  have n10c := hfK.at n10c (by omega)
  have hfr := hfr.k hfK (by omega)
  refine gp_S_24 hF hT hnm hK hP hD hS (fs1 := [.int (nI n), .ref q10, .ref q22, .int 0]) o0 rfl rfl (Nat.le_of_ble_eq_true rfl) rfl d_S_init_30 (fun w H locs o0 hf hP hD hS => ?_)
  have n10 := hf.at n10 (by omega)
  have n10c := hf.at n10c (by omega)
  have n22 := hf.at n22 (by omega)
  have n22c := hf.at n22c (by omega)
  have hfr := hfr.f hf (by omega)
  have hlen := hf.2.trans hlen
  refine lv_aload_n hx hb d_S_init_33 rfl (lv_at hl 0 rfl) ?_
  refine gf_S_24 hF hT hK hP o0 rfl d_S_init_34 ?_
  refine lv_lconst (v := 0) hx hb d_S_init_37 rfl ?_
  refine gw_cv (gc_S_27 (As := [.long (0 : Int64)]) (rest := []) hF hT (c_T_storeOpposites ⟨n22, n22c⟩ hn he) ⟨(Nat.le_of_ble_eq_true rfl), (Nat.le_of_ble_eq_true rfl)⟩ rfl rfl hK hN hP hD n22 rfl hl.1 rfl (Nat.le_of_ble_eq_true rfl) d_S_init_38 ⟨(by show _ ≤ 4; omega), (by show _ ≤ 204; first | omega | (have := lr_sq1 hn; omega))⟩) hD hS hA (fun w H locs hw hP hD hS => ?_)
  obtain ⟨⟨n22, n22c⟩, hf⟩ := hw
  have o0 := hf.at o0 (by omega)
  have n10 := hf.at n10 (by omega)
  have n10c := hf.at n10c (by omega)
  have hfr := hfr.f hf (by omega)
  have hlen := hf.2.trans hlen
  refine lv_aload_n hx hb d_S_init_41 rfl (lv_at hl 0 rfl) ?_
  refine lv_iconst (v := nI 0) hx hb d_S_init_42 (by decide) ?_
  refine gp_S_31 hF hT hK hP hD hS (fs1 := [.int (nI n), .ref q10, .ref q22, .int (nI 0)]) o0 rfl rfl (Nat.le_of_ble_eq_true rfl) rfl d_S_init_43 (fun w H locs o0 hf hP hD hS => ?_)
  have n10 := hf.at n10 (by omega)
  have n10c := hf.at n10c (by omega)
  have n22 := hf.at n22 (by omega)
  have n22c := hf.at n22c (by omega)
  have hfr := hfr.f hf (by omega)
  have hlen := hf.2.trans hlen
  exact gw_vret hx hb hr hlocks hK hP hD hS (by omega) (by first | omega | (have := lr_sq1 hn; omega)) d_S_init_46 ⟨⟨fun i => [h, q10, g15, q22, g27].getD i 0, rfl, o0, ⟨n10, n10c⟩, ⟨n22, n22c⟩⟩, hfr, hlen⟩

set_option maxHeartbeats 4000000 in
set_option maxRecDepth 100000 in
theorem c_M_init {l : Launch} {D : va_G} {cJ cI cZ cS : ClassId} {ws : va_W} {sz : Nat} {b h : Nat} {x : Int32} (o0 : ws[b]? = some (h, .inr (3, [.int 0, .int 0, .null, .null, .null, .null, .null, .null, .int 0, .null, .null, .null, .null]))) (hlen : ws.length = b + 1) : Met l y_M_init w_M_init ({ frames := 2, cells := 10, slots := 1394, locals := 24 } : Room) (gw_Pc D classes (gT cJ cI cZ cS) [.ref h, .int x] ws sz) (va_Qv (fun w => (∃ A, A 0 = h ∧ mS cJ cI cZ w b A (lr_N x) 0 0 (lr_it (fun k R => vp_updL R k lr_E) 800 (fun _ => 0)) (fun _ => 0) (fun _ => 0) (fun _ => 0) (fun _ => 0) (fun _ => 0)) ∧ gK b ws w ∧ w.length = b + 11) (gw_B D classes (gT cJ cI cZ cS) ws sz) (va_A ws sz)) 10 1394 (va_A ws sz) := by
  refine gw_head (by decide) (Nat.le_of_ble_eq_true rfl) (fun p e s m below meth c hsz hx hb hr hlocks hml hown hnm hts hK hN hP hD hS hA ls hl => ?_)
  have hown : s.vm.findClass R_M = some m.cls := hown
  have hT : ∀ w ∈ wG, w ∈ Cond.code y_M_init b_M_init 3 none :: wG := gd_t _
  have hF : CallFix p m c b_M_init 3 s ([.ref h, .int x] : List Value).toArray (Cond.code y_M_init b_M_init 3 none :: wG) R_M := ⟨hx, hb, hml, hown, hts⟩
  have hl : lv_has ls 3 [(0, .ref h), (1, .int x)] := hl
  have hfr : gK b ws ws := gK.rf
  refine lv_aload_n hx hb d_M_init_0 rfl (lv_at hl 0 rfl) ?_
  refine W.objInit hx hb hown (hts _ (hT _ wm_3_123)) (hts _ (hT _ wm_1_20)) (hts _ (hT _ wm_1_21)) rfl (by rw [hml]; exact hl.1) rfl d_M_init_1 (Nat.le_of_ble_eq_true rfl) (Nat.le_of_ble_eq_true rfl) ?_
  refine W.eq (g2 := F0 m 4 ls []) rfl ?_
  refine lv_aload_n hx hb d_M_init_4 rfl (lv_at hl 0 rfl) ?_
  refine lv_sipush (v := nI 800) hx hb d_M_init_5 (by decide) ?_
  refine g_newJ (L := b + 1) (t0 := 0) (k := 800) hF hT hK hP hD hS hA rfl (by omega) (by omega) (by show _ ≤ 10; omega) (by show _ ≤ 1394; first | omega | (have := lr_sq1 hn; omega)) d_M_init_8 (fun w q8 H n8 hfA hP hD hS => ?_)
  have o0 := hfA.at o0 (by omega)
  have hfr := hfr.a hfA (by omega)
  have hlen := hfA.2
  refine gp_M_7 hF hT hnm hK hP hD hS (fs1 := [.int 0, .int 0, .ref q8, .null, .null, .null, .null, .null, .int 0, .null, .null, .null, .null]) o0 rfl rfl (Nat.le_of_ble_eq_true rfl) rfl d_M_init_10 (fun w H locs o0 hf hP hD hS => ?_)
  have n8 := hf.at n8 (by omega)
  have hfr := hfr.f hf (by omega)
  have hlen := hf.2.trans hlen
  refine lv_aload_n hx hb d_M_init_13 rfl (lv_at hl 0 rfl) ?_
  refine lv_bipush (v := nI 8) hx hb d_M_init_14 (by decide) ?_
  refine g_newZ (L := b + 2) (t0 := 2) (k := 8) hF hT hK hP hD hS hA rfl (by omega) (by omega) (by show _ ≤ 10; omega) (by show _ ≤ 1394; first | omega | (have := lr_sq1 hn; omega)) d_M_init_16 (fun w q16 H n16 hfA hP hD hS => ?_)
  have o0 := hfA.at o0 (by omega)
  have n8 := hfA.at n8 (by omega)
  have hfr := hfr.a hfA (by omega)
  have hlen := hfA.2
  refine gp_M_13 hF hT hnm hK hP hD hS (fs1 := [.int 0, .int 0, .ref q8, .ref q16, .null, .null, .null, .null, .int 0, .null, .null, .null, .null]) o0 rfl rfl (Nat.le_of_ble_eq_true rfl) rfl d_M_init_18 (fun w H locs o0 hf hP hD hS => ?_)
  have n8 := hf.at n8 (by omega)
  have n16 := hf.at n16 (by omega)
  have hfr := hfr.f hf (by omega)
  have hlen := hf.2.trans hlen
  refine lv_aload_n hx hb d_M_init_21 rfl (lv_at hl 0 rfl) ?_
  refine lv_bipush (v := nI 100) hx hb d_M_init_22 (by decide) ?_
  refine g_newJ (L := b + 3) (t0 := 0) (k := 100) hF hT hK hP hD hS hA rfl (by omega) (by omega) (by show _ ≤ 10; omega) (by show _ ≤ 1394; first | omega | (have := lr_sq1 hn; omega)) d_M_init_24 (fun w q24 H n24 hfA hP hD hS => ?_)
  have o0 := hfA.at o0 (by omega)
  have n8 := hfA.at n8 (by omega)
  have n16 := hfA.at n16 (by omega)
  have hfr := hfr.a hfA (by omega)
  have hlen := hfA.2
  refine gp_M_17 hF hT hnm hK hP hD hS (fs1 := [.int 0, .int 0, .ref q8, .ref q16, .ref q24, .null, .null, .null, .int 0, .null, .null, .null, .null]) o0 rfl rfl (Nat.le_of_ble_eq_true rfl) rfl d_M_init_26 (fun w H locs o0 hf hP hD hS => ?_)
  have n8 := hf.at n8 (by omega)
  have n16 := hf.at n16 (by omega)
  have n24 := hf.at n24 (by omega)
  have hfr := hfr.f hf (by omega)
  have hlen := hf.2.trans hlen
  refine lv_aload_n hx hb d_M_init_29 rfl (lv_at hl 0 rfl) ?_
  refine lv_bipush (v := nI 100) hx hb d_M_init_30 (by decide) ?_
  refine g_newJ (L := b + 4) (t0 := 0) (k := 100) hF hT hK hP hD hS hA rfl (by omega) (by omega) (by show _ ≤ 10; omega) (by show _ ≤ 1394; first | omega | (have := lr_sq1 hn; omega)) d_M_init_32 (fun w q32 H n32 hfA hP hD hS => ?_)
  have o0 := hfA.at o0 (by omega)
  have n8 := hfA.at n8 (by omega)
  have n16 := hfA.at n16 (by omega)
  have n24 := hfA.at n24 (by omega)
  have hfr := hfr.a hfA (by omega)
  have hlen := hfA.2
  refine gp_M_20 hF hT hnm hK hP hD hS (fs1 := [.int 0, .int 0, .ref q8, .ref q16, .ref q24, .ref q32, .null, .null, .int 0, .null, .null, .null, .null]) o0 rfl rfl (Nat.le_of_ble_eq_true rfl) rfl d_M_init_34 (fun w H locs o0 hf hP hD hS => ?_)
  have n8 := hf.at n8 (by omega)
  have n16 := hf.at n16 (by omega)
  have n24 := hf.at n24 (by omega)
  have n32 := hf.at n32 (by omega)
  have hfr := hfr.f hf (by omega)
  have hlen := hf.2.trans hlen
  refine lv_aload_n hx hb d_M_init_37 rfl (lv_at hl 0 rfl) ?_
  refine lv_bipush (v := nI 100) hx hb d_M_init_38 (by decide) ?_
  refine g_newJ (L := b + 5) (t0 := 0) (k := 100) hF hT hK hP hD hS hA rfl (by omega) (by omega) (by show _ ≤ 10; omega) (by show _ ≤ 1394; first | omega | (have := lr_sq1 hn; omega)) d_M_init_40 (fun w q40 H n40 hfA hP hD hS => ?_)
  have o0 := hfA.at o0 (by omega)
  have n8 := hfA.at n8 (by omega)
  have n16 := hfA.at n16 (by omega)
  have n24 := hfA.at n24 (by omega)
  have n32 := hfA.at n32 (by omega)
  have hfr := hfr.a hfA (by omega)
  have hlen := hfA.2
  refine gp_M_23 hF hT hnm hK hP hD hS (fs1 := [.int 0, .int 0, .ref q8, .ref q16, .ref q24, .ref q32, .ref q40, .null, .int 0, .null, .null, .null, .null]) o0 rfl rfl (Nat.le_of_ble_eq_true rfl) rfl d_M_init_42 (fun w H locs o0 hf hP hD hS => ?_)
  have n8 := hf.at n8 (by omega)
  have n16 := hf.at n16 (by omega)
  have n24 := hf.at n24 (by omega)
  have n32 := hf.at n32 (by omega)
  have n40 := hf.at n40 (by omega)
  have hfr := hfr.f hf (by omega)
  have hlen := hf.2.trans hlen
  refine lv_aload_n hx hb d_M_init_45 rfl (lv_at hl 0 rfl) ?_
  refine lv_bipush (v := nI 6) hx hb d_M_init_46 (by decide) ?_
  refine g_newJ (L := b + 6) (t0 := 0) (k := 6) hF hT hK hP hD hS hA rfl (by omega) (by omega) (by show _ ≤ 10; omega) (by show _ ≤ 1394; first | omega | (have := lr_sq1 hn; omega)) d_M_init_48 (fun w q48 H n48 hfA hP hD hS => ?_)
  have o0 := hfA.at o0 (by omega)
  have n8 := hfA.at n8 (by omega)
  have n16 := hfA.at n16 (by omega)
  have n24 := hfA.at n24 (by omega)
  have n32 := hfA.at n32 (by omega)
  have n40 := hfA.at n40 (by omega)
  have hfr := hfr.a hfA (by omega)
  have hlen := hfA.2
  refine gp_M_26 hF hT hnm hK hP hD hS (fs1 := [.int 0, .int 0, .ref q8, .ref q16, .ref q24, .ref q32, .ref q40, .ref q48, .int 0, .null, .null, .null, .null]) o0 rfl rfl (Nat.le_of_ble_eq_true rfl) rfl d_M_init_50 (fun w H locs o0 hf hP hD hS => ?_)
  have n8 := hf.at n8 (by omega)
  have n16 := hf.at n16 (by omega)
  have n24 := hf.at n24 (by omega)
  have n32 := hf.at n32 (by omega)
  have n40 := hf.at n40 (by omega)
  have n48 := hf.at n48 (by omega)
  have hfr := hfr.f hf (by omega)
  have hlen := hf.2.trans hlen
  refine lv_aload_n hx hb d_M_init_53 rfl (lv_at hl 0 rfl) ?_
  refine lv_bipush (v := nI 60) hx hb d_M_init_54 (by decide) ?_
  refine g_newI (L := b + 7) (t0 := 1) (k := 60) hF hT hK hP hD hS hA rfl (by omega) (by omega) (by show _ ≤ 10; omega) (by show _ ≤ 1394; first | omega | (have := lr_sq1 hn; omega)) d_M_init_56 (fun w q56 H n56 hfA hP hD hS => ?_)
  have o0 := hfA.at o0 (by omega)
  have n8 := hfA.at n8 (by omega)
  have n16 := hfA.at n16 (by omega)
  have n24 := hfA.at n24 (by omega)
  have n32 := hfA.at n32 (by omega)
  have n40 := hfA.at n40 (by omega)
  have n48 := hfA.at n48 (by omega)
  have hfr := hfr.a hfA (by omega)
  have hlen := hfA.2
  refine gp_M_29 hF hT hnm hK hP hD hS (fs1 := [.int 0, .int 0, .ref q8, .ref q16, .ref q24, .ref q32, .ref q40, .ref q48, .int 0, .ref q56, .null, .null, .null]) o0 rfl rfl (Nat.le_of_ble_eq_true rfl) rfl d_M_init_58 (fun w H locs o0 hf hP hD hS => ?_)
  have n8 := hf.at n8 (by omega)
  have n16 := hf.at n16 (by omega)
  have n24 := hf.at n24 (by omega)
  have n32 := hf.at n32 (by omega)
  have n40 := hf.at n40 (by omega)
  have n48 := hf.at n48 (by omega)
  have n56 := hf.at n56 (by omega)
  have hfr := hfr.f hf (by omega)
  have hlen := hf.2.trans hlen
  refine lv_aload_n hx hb d_M_init_61 rfl (lv_at hl 0 rfl) ?_
  refine lv_bipush (v := nI 60) hx hb d_M_init_62 (by decide) ?_
  refine g_newI (L := b + 8) (t0 := 1) (k := 60) hF hT hK hP hD hS hA rfl (by omega) (by omega) (by show _ ≤ 10; omega) (by show _ ≤ 1394; first | omega | (have := lr_sq1 hn; omega)) d_M_init_64 (fun w q64 H n64 hfA hP hD hS => ?_)
  have o0 := hfA.at o0 (by omega)
  have n8 := hfA.at n8 (by omega)
  have n16 := hfA.at n16 (by omega)
  have n24 := hfA.at n24 (by omega)
  have n32 := hfA.at n32 (by omega)
  have n40 := hfA.at n40 (by omega)
  have n48 := hfA.at n48 (by omega)
  have n56 := hfA.at n56 (by omega)
  have hfr := hfr.a hfA (by omega)
  have hlen := hfA.2
  refine gp_M_33 hF hT hnm hK hP hD hS (fs1 := [.int 0, .int 0, .ref q8, .ref q16, .ref q24, .ref q32, .ref q40, .ref q48, .int 0, .ref q56, .ref q64, .null, .null]) o0 rfl rfl (Nat.le_of_ble_eq_true rfl) rfl d_M_init_66 (fun w H locs o0 hf hP hD hS => ?_)
  have n8 := hf.at n8 (by omega)
  have n16 := hf.at n16 (by omega)
  have n24 := hf.at n24 (by omega)
  have n32 := hf.at n32 (by omega)
  have n40 := hf.at n40 (by omega)
  have n48 := hf.at n48 (by omega)
  have n56 := hf.at n56 (by omega)
  have n64 := hf.at n64 (by omega)
  have hfr := hfr.f hf (by omega)
  have hlen := hf.2.trans hlen
  refine lv_aload_n hx hb d_M_init_69 rfl (lv_at hl 0 rfl) ?_
  refine lv_bipush (v := nI 60) hx hb d_M_init_70 (by decide) ?_
  refine g_newJ (L := b + 9) (t0 := 0) (k := 60) hF hT hK hP hD hS hA rfl (by omega) (by omega) (by show _ ≤ 10; omega) (by show _ ≤ 1394; first | omega | (have := lr_sq1 hn; omega)) d_M_init_72 (fun w q72 H n72 hfA hP hD hS => ?_)
  have o0 := hfA.at o0 (by omega)
  have n8 := hfA.at n8 (by omega)
  have n16 := hfA.at n16 (by omega)
  have n24 := hfA.at n24 (by omega)
  have n32 := hfA.at n32 (by omega)
  have n40 := hfA.at n40 (by omega)
  have n48 := hfA.at n48 (by omega)
  have n56 := hfA.at n56 (by omega)
  have n64 := hfA.at n64 (by omega)
  have hfr := hfr.a hfA (by omega)
  have hlen := hfA.2
  refine gp_M_36 hF hT hnm hK hP hD hS (fs1 := [.int 0, .int 0, .ref q8, .ref q16, .ref q24, .ref q32, .ref q40, .ref q48, .int 0, .ref q56, .ref q64, .ref q72, .null]) o0 rfl rfl (Nat.le_of_ble_eq_true rfl) rfl d_M_init_74 (fun w H locs o0 hf hP hD hS => ?_)
  have n8 := hf.at n8 (by omega)
  have n16 := hf.at n16 (by omega)
  have n24 := hf.at n24 (by omega)
  have n32 := hf.at n32 (by omega)
  have n40 := hf.at n40 (by omega)
  have n48 := hf.at n48 (by omega)
  have n56 := hf.at n56 (by omega)
  have n64 := hf.at n64 (by omega)
  have n72 := hf.at n72 (by omega)
  have hfr := hfr.f hf (by omega)
  have hlen := hf.2.trans hlen
  refine lv_aload_n hx hb d_M_init_77 rfl (lv_at hl 0 rfl) ?_
  refine lv_bipush (v := nI 60) hx hb d_M_init_78 (by decide) ?_
  refine g_newZ (L := b + 10) (t0 := 2) (k := 60) hF hT hK hP hD hS hA rfl (by omega) (by omega) (by show _ ≤ 10; omega) (by show _ ≤ 1394; first | omega | (have := lr_sq1 hn; omega)) d_M_init_80 (fun w q80 H n80 hfA hP hD hS => ?_)
  have o0 := hfA.at o0 (by omega)
  have n8 := hfA.at n8 (by omega)
  have n16 := hfA.at n16 (by omega)
  have n24 := hfA.at n24 (by omega)
  have n32 := hfA.at n32 (by omega)
  have n40 := hfA.at n40 (by omega)
  have n48 := hfA.at n48 (by omega)
  have n56 := hfA.at n56 (by omega)
  have n64 := hfA.at n64 (by omega)
  have n72 := hfA.at n72 (by omega)
  have hfr := hfr.a hfA (by omega)
  have hlen := hfA.2
  refine gp_M_39 hF hT hnm hK hP hD hS (fs1 := [.int 0, .int 0, .ref q8, .ref q16, .ref q24, .ref q32, .ref q40, .ref q48, .int 0, .ref q56, .ref q64, .ref q72, .ref q80]) o0 rfl rfl (Nat.le_of_ble_eq_true rfl) rfl d_M_init_82 (fun w H locs o0 hf hP hD hS => ?_)
  have n8 := hf.at n8 (by omega)
  have n16 := hf.at n16 (by omega)
  have n24 := hf.at n24 (by omega)
  have n32 := hf.at n32 (by omega)
  have n40 := hf.at n40 (by omega)
  have n48 := hf.at n48 (by omega)
  have n56 := hf.at n56 (by omega)
  have n64 := hf.at n64 (by omega)
  have n72 := hf.at n72 (by omega)
  have n80 := hf.at n80 (by omega)
  have hfr := hfr.f hf (by omega)
  have hlen := hf.2.trans hlen
  refine lv_aload_n hx hb d_M_init_85 rfl (lv_at hl 0 rfl) ?_
  have mg_105 : ∀ (H : Heap) (locs : List Loc), va_P D classes w H → va_D (va_A ws sz) w → va_S (va_A ws sz) s.heap H locs → W p l e ({ frames := 2, cells := 10, slots := 1394, locals := 24 } : Room) s m ([.ref h, .int x] : List Value).toArray below meth c H locs (0 + 1 + 1 + 1 + 1 + 1 + 1 + 1 + 1 + 1 + 1) (0 + 800 + 8 + 100 + 100 + 100 + 6 + 60 + 60 + 60 + 60) (MQ below (va_Qv (fun w => (∃ A, A 0 = h ∧ mS cJ cI cZ w b A (lr_N x) 0 0 (lr_it (fun k R => vp_updL R k lr_E) 800 (fun _ => 0)) (fun _ => 0) (fun _ => 0) (fun _ => 0) (fun _ => 0) (fun _ => 0)) ∧ gK b ws w ∧ w.length = b + 11) (gw_B D classes (gT cJ cI cZ cS) ws sz) (va_A ws sz)) ([.ref h, .int x] : List Value).toArray s 10 1394 (va_A ws sz)) (F0 m 105 ls [.int (nI (lr_N x)), .ref h]) := by
    intro H locs hP hD hS
    refine gp_M_42 hF hT hnm hK hP hD hS (fs1 := [.int 0, .int (nI (lr_N x)), .ref q8, .ref q16, .ref q24, .ref q32, .ref q40, .ref q48, .int 0, .ref q56, .ref q64, .ref q72, .ref q80]) o0 rfl rfl (Nat.le_of_ble_eq_true rfl) rfl d_M_init_105 (fun w H locs o0 hf hP hD hS => ?_)
    have n8 := hf.at n8 (by omega)
    have n16 := hf.at n16 (by omega)
    have n24 := hf.at n24 (by omega)
    have n32 := hf.at n32 (by omega)
    have n40 := hf.at n40 (by omega)
    have n48 := hf.at n48 (by omega)
    have n56 := hf.at n56 (by omega)
    have n64 := hf.at n64 (by omega)
    have n72 := hf.at n72 (by omega)
    have n80 := hf.at n80 (by omega)
    have hfr := hfr.f hf (by omega)
    have hlen := hf.2.trans hlen
    refine lv_iconst (v := nI 0) hx hb d_M_init_108 (by decide) ?_
    refine lv_istore_n (lv' := [(2, .int (nI 0)), (0, .ref h), (1, .int x)]) hx hb d_M_init_109 rfl hl (by decide) rfl (fun ls hl => ?_)
    have lp_110 : ∀ (dd k : Nat), k + dd = 800 → ∀ (w : va_W) (H : Heap) (locs : List Loc) (ls : Array Slot), w[b]? = some (h, .inr (3, [.int 0, .int (nI (lr_N x)), .ref q8, .ref q16, .ref q24, .ref q32, .ref q40, .ref q48, .int 0, .ref q56, .ref q64, .ref q72, .ref q80])) → w[b + 1]? = some (q8, .inl (cJ, 800, .inr (.inl (lr_it (fun k R => vp_updL R k lr_E) k (fun _ => 0))))) → w[b + 2]? = some (q16, .inl (cZ, 8, .inl (fun _ => 0))) → w[b + 3]? = some (q24, .inl (cJ, 100, .inr (.inl (fun _ => 0)))) → w[b + 4]? = some (q32, .inl (cJ, 100, .inr (.inl (fun _ => 0)))) → w[b + 5]? = some (q40, .inl (cJ, 100, .inr (.inl (fun _ => 0)))) → w[b + 6]? = some (q48, .inl (cJ, 6, .inr (.inl (fun _ => 0)))) → w[b + 7]? = some (q56, .inl (cI, 60, .inl (fun _ => 0))) → w[b + 8]? = some (q64, .inl (cI, 60, .inl (fun _ => 0))) → w[b + 9]? = some (q72, .inl (cJ, 60, .inr (.inl (fun _ => 0)))) → w[b + 10]? = some (q80, .inl (cZ, 60, .inl (fun _ => 0))) → gK b ws w → w.length = b + 11 → va_P D classes w H → va_D (va_A ws sz) w → va_S (va_A ws sz) s.heap H locs → lv_has ls 3 [(2, .int (nI k)), (0, .ref h), (1, .int x)] → W p l e ({ frames := 2, cells := 10, slots := 1394, locals := 24 } : Room) s m ([.ref h, .int x] : List Value).toArray below meth c H locs (0 + 1 + 1 + 1 + 1 + 1 + 1 + 1 + 1 + 1 + 1) (0 + 800 + 8 + 100 + 100 + 100 + 6 + 60 + 60 + 60 + 60) (MQ below (va_Qv (fun w => (∃ A, A 0 = h ∧ mS cJ cI cZ w b A (lr_N x) 0 0 (lr_it (fun k R => vp_updL R k lr_E) 800 (fun _ => 0)) (fun _ => 0) (fun _ => 0) (fun _ => 0) (fun _ => 0) (fun _ => 0)) ∧ gK b ws w ∧ w.length = b + 11) (gw_B D classes (gT cJ cI cZ cS) ws sz) (va_A ws sz)) ([.ref h, .int x] : List Value).toArray s 10 1394 (va_A ws sz)) (F0 m 110 ls []) := by
      intro dd
      induction dd with
      | zero =>
        intro k e_k w H locs ls o0 n8 n16 n24 n32 n40 n48 n56 n64 n72 n80 hfr hlen hP hD hS hl
        have e0_k : 800 = k := by omega
        subst e0_k
        refine lv_iload_n hx hb d_M_init_110 rfl (lv_at hl 0 rfl) ?_
        refine lv_sipush (v := nI 800) hx hb d_M_init_111 (by decide) ?_
        refine lv_icmp_ge (tgt := 132) hx hb d_M_init_114 (by decide) (fun c1 => ?_) (fun c1 => ?_)
        · have c1 := (nI_leI (a := 800) (b := 800) (by omega) (by omega)).mp c1
          exact gw_vret hx hb hr hlocks hK hP hD hS (by omega) (by first | omega | (have := lr_sq1 hn; omega)) d_M_init_132 ⟨⟨fun i => [h, q8, q16, q24, q32, q40, q48, q56, q64, q72, q80].getD i 0, rfl, _, _, _, _, o0, n8, n16, n24, n32, n40, n48, n56, n64, n72, n80⟩, hfr, hlen⟩
        · have c1 : ¬ (800 ≤ 800) := fun z => c1 ((nI_leI (a := 800) (b := 800) (by omega) (by omega)).mpr z)
          exfalso; omega
      | succ dd ih_110 =>
        intro k e_k w H locs ls o0 n8 n16 n24 n32 n40 n48 n56 n64 n72 n80 hfr hlen hP hD hS hl
        refine lv_iload_n hx hb d_M_init_110 rfl (lv_at hl 0 rfl) ?_
        refine lv_sipush (v := nI 800) hx hb d_M_init_111 (by decide) ?_
        refine lv_icmp_ge (tgt := 132) hx hb d_M_init_114 (by decide) (fun c2 => ?_) (fun c2 => ?_)
        · have c2 := (nI_leI (a := 800) (b := k) (by omega) (by omega)).mp c2
          exfalso; omega
        · have c2 : ¬ (800 ≤ k) := fun z => c2 ((nI_leI (a := 800) (b := k) (by omega) (by omega)).mpr z)
          refine lv_aload_n hx hb d_M_init_117 rfl (lv_at hl 1 rfl) ?_
          refine gf_M_7 hF hT hK hP o0 rfl d_M_init_118 ?_
          refine lv_iload_n hx hb d_M_init_121 rfl (lv_at hl 0 rfl) ?_
          refine lv_ldc2 (v := lr_E) hx hb hown (hts _ (hT _ wm_3_124)) d_M_init_122 ?_
          refine g_last (t0 := 0) (k := k) hx hb hK hP hD hS n8 rfl (by omega) (by omega) d_M_init_125 (fun w H locs n8 hf hP hD hS => ?_)
          have o0 := hf.at o0 (by omega)
          have n16 := hf.at n16 (by omega)
          have n24 := hf.at n24 (by omega)
          have n32 := hf.at n32 (by omega)
          have n40 := hf.at n40 (by omega)
          have n48 := hf.at n48 (by omega)
          have n56 := hf.at n56 (by omega)
          have n64 := hf.at n64 (by omega)
          have n72 := hf.at n72 (by omega)
          have n80 := hf.at n80 (by omega)
          have hfr := hfr.f hf (by omega)
          have hlen := hf.2.trans hlen
          refine lv_iinc (v := nI (k + 1)) (lv' := [(2, .int (nI (k + 1))), (0, .ref h), (1, .int x)]) hx hb d_M_init_126 hl (k := 0) rfl (gx_inc _) (by decide) rfl (fun ls hl => ?_)
          refine lv_goto (tgt := 110) hx hb d_M_init_129 (by decide) ?_
          exact ih_110 (k + 1) (by omega) _ _ _ _ o0 n8 n16 n24 n32 n40 n48 n56 n64 n72 n80 hfr hlen hP hD hS (lv_sub hl [0, 1, 2] rfl)
    exact lp_110 800 0 (by omega) _ _ _ _ o0 n8 n16 n24 n32 n40 n48 n56 n64 n72 n80 hfr hlen hP hD hS (lv_sub hl [0, 1, 2] rfl)
  refine lv_iload_n hx hb d_M_init_86 rfl (lv_at hl 1 rfl) ?_
  refine lv_iconst (v := nI 1) hx hb d_M_init_87 (by decide) ?_
  refine lv_icmp_ge (tgt := 95) hx hb d_M_init_88 (by decide) (fun c3 => ?_) (fun c3 => ?_)
  · refine lv_iload_n hx hb d_M_init_95 rfl (lv_at hl 1 rfl) ?_
    refine lv_iconst (v := nI 5) hx hb d_M_init_96 (by decide) ?_
    refine lv_icmp_le (tgt := 104) hx hb d_M_init_97 (by decide) (fun c4 => ?_) (fun c4 => ?_)
    · refine lv_iload_n hx hb d_M_init_104 rfl (lv_at hl 1 rfl) ?_
      exact gx_i (y := nI (lr_N x)) (lr_N_eq c3 c4) (mg_105 _ _ hP hD hS)
    · refine lv_iconst (v := nI 5) hx hb d_M_init_100 (by decide) ?_
      refine lv_goto (tgt := 105) hx hb d_M_init_101 (by decide) ?_
      exact gx_i (y := nI (lr_N x)) (lr_N_h c4) (mg_105 _ _ hP hD hS)
  · refine lv_iconst (v := nI 1) hx hb d_M_init_91 (by decide) ?_
    refine lv_goto (tgt := 105) hx hb d_M_init_92 (by decide) ?_
    exact gx_i (y := nI (lr_N x)) (lr_N_l c3) (mg_105 _ _ hP hD hS)
