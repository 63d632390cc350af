set_option maxHeartbeats 4000000 in
set_option maxRecDepth 100000 in
theorem c_X_init {l : Launch} {D : va_G} {cJ cI cZ cS : ClassId} {ws : va_W} {sz : Nat} {b h : Nat} {x : Int32} (x0 : ws[b]? = some (h, .inr (2, [.int 0, .int 0, .null, .null, .null, .null, .null, .null, .int 0]))) (hlen : ws.length = b + 1) : Met l y_X_init w_X_init ({ frames := 4, cells := 52, slots := 2239, locals := 66 } : Room) (gi_Pc D classes (gT cJ cI cZ cS) [.ref h, .int x] ws sz) (va_Qv (fun w => (∃ A sf, A 0 = h ∧ xAt cJ cS w b A (lr_N x) sf (fun _ => lr_K0 (2 * lr_N x)) (fun _ => lr_B0 (2 * lr_N x)) (fun _ => nI 0) (lr_K0 (2 * lr_N x)) (lr_B0 (2 * lr_N x)) (nI 0) (lr_K0 (2 * lr_N x)) (lr_K0 (2 * lr_N x)) (fun _ => 0) (fun _ => 0) (nI 0)) ∧ gK b ws w ∧ w.length = b + 53) (gw_B D classes (gT cJ cI cZ cS) ws sz) (va_A ws sz)) 52 2239 (va_A ws sz) := by
  refine gi_head (by decide) (Nat.le_of_ble_eq_true rfl) (fun p e s m below meth c hO hsz hx hb hr hlocks hml hown hnm hts hK hN hP hD hS hA ls hl => ?_)
  have hown : s.vm.findClass R_X = some m.cls := hown
  have hT : ∀ w ∈ wG, w ∈ Cond.code y_X_init b_X_init 3 none :: wG := gd_t _
  have hF : CallFix p m c b_X_init 3 s ([.ref h, .int x] : List Value).toArray (Cond.code y_X_init b_X_init 3 none :: wG) R_X := ⟨hx, hb, hml, hown, hts⟩
  have hl : lv_has ls 3 [(0, .ref h), (1, .int x)] := hl
  have hN1 := lr_N_1 x
  have hN5 := lr_N_5 x
  obtain ⟨N, hNx⟩ : ∃ N, lr_N x = N := ⟨_, rfl⟩
  rw [hNx] at hN1 hN5
  have hn : 2 * N ≤ 10 := by omega
  have he : 2 * N % 2 = 0 := by omega
  have hn6 := lr_n6 hN5
  have hfr : gK b ws ws := gK.rf
  refine lv_aload_n hx hb d_X_init_0 rfl (lv_at hl 0 rfl) ?_
  refine W.objInit hx hb hown (hts _ (hT _ wm_1_19)) (hts _ (hT _ wm_1_20)) (hts _ (hT _ wm_1_21)) rfl (by rw [hml]; exact hl.1) rfl d_X_init_1 (Nat.le_of_ble_eq_true rfl) (Nat.le_of_ble_eq_true rfl) ?_
  refine W.eq (g2 := F0 m 4 ls []) rfl ?_
  refine lv_aload_n hx hb d_X_init_4 rfl (lv_at hl 0 rfl) ?_
  refine lv_iconst (v := nI 1) hx hb d_X_init_5 (by decide) ?_
  refine lv_iconst (v := nI 5) hx hb d_X_init_6 (by decide) ?_
  refine lv_iload_n hx hb d_X_init_7 rfl (lv_at hl 1 rfl) ?_
  refine va_mmin hx hb (by rw [hml]; exact hl.1.symm) hown (hts _ (hT _ wm_1_22)) (hts _ (hT _ wm_1_23)) (hts _ (hT _ wm_1_2)) (hts _ (hT _ wm_1_24)) (Nat.le_of_ble_eq_true rfl) (Nat.le_of_ble_eq_true rfl) (Nat.le_of_ble_eq_true rfl) (Nat.le_of_ble_eq_true rfl) d_X_init_8 ?_
  refine va_mmax hx hb (by rw [hml]; exact hl.1.symm) hown (hts _ (hT _ wm_1_25)) (hts _ (hT _ wm_1_26)) (hts _ (hT _ wm_1_2)) (hts _ (hT _ wm_1_27)) (Nat.le_of_ble_eq_true rfl) (Nat.le_of_ble_eq_true rfl) (Nat.le_of_ble_eq_true rfl) (Nat.le_of_ble_eq_true rfl) d_X_init_11 ?_
  refine gx_i (y := nI N) (by rw [← hNx]; exact lr_N_mm x) ?_
  refine gp_X_18 hF hT hnm hK hP hD hS (fs1 := [.int (nI N), .int 0, .null, .null, .null, .null, .null, .null, .int 0]) x0 rfl rfl (Nat.le_of_ble_eq_true rfl) rfl d_X_init_14 (fun w H locs x0 hf hP hD hS => ?_)
  have hfr := hfr.f hf (by omega)
  have hlen := hf.2.trans hlen
  refine lv_aload_n hx hb d_X_init_17 rfl (lv_at hl 0 rfl) ?_
  refine lv_iconst (v := nI 2) hx hb d_X_init_18 (by decide) ?_
  refine lv_aload_n hx hb d_X_init_19 rfl (lv_at hl 0 rfl) ?_
  refine gf_X_18 hF hT hK hP x0 rfl d_X_init_20 ?_
  refine lv_imul hx hb d_X_init_23 ?_
  refine gx_i (y := nI (2 * N)) (pk_mul _ _) ?_
  refine gp_X_22 hF hT hnm hK hP hD hS (fs1 := [.int (nI N), .int (nI (2 * N)), .null, .null, .null, .null, .null, .null, .int 0]) x0 rfl rfl (Nat.le_of_ble_eq_true rfl) rfl d_X_init_24 (fun w H locs x0 hf hP hD hS => ?_)
  have hfr := hfr.f hf (by omega)
  have hlen := hf.2.trans hlen
  refine lv_aload_n hx hb d_X_init_27 rfl (lv_at hl 0 rfl) ?_
  refine lv_bipush (v := nI 8) hx hb d_X_init_28 (by decide) ?_
  refine g_newS (L := b + 1) (t0 := 3) (k := 8) hF hT wm_1_28 hO hK hP hD hS hA rfl (by omega) (by omega) (by show _ ≤ 52; omega) (by show _ ≤ 2239; omega) d_X_init_30 (fun w q30 H n30 hfA hP hD hS => ?_)
  have x0 := hfA.at x0 (by omega)
  have hfr := hfr.a hfA (by omega)
  have hlen := hfA.2
  refine gp_X_27 hF hT hnm hK hP hD hS (fs1 := [.int (nI N), .int (nI (2 * N)), .ref q30, .null, .null, .null, .null, .null, .int 0]) x0 rfl rfl (Nat.le_of_ble_eq_true rfl) rfl d_X_init_33 (fun w H locs x0 hf hP hD hS => ?_)
  have n30 := hf.at n30 (by omega)
  have hfr := hfr.f hf (by omega)
  have hlen := hf.2.trans hlen
  refine lv_iconst (v := nI 0) hx hb d_X_init_36 (by decide) ?_
  refine lv_istore_n (lv' := [(2, .int (nI 0)), (0, .ref h), (1, .int x)]) hx hb d_X_init_37 rfl hl (by decide) rfl (fun ls hl => ?_)
  have hpar : xPar cJ w b (fun i => [h, q30].getD i 0) (2 * N) 0 (fun _ => none) := fun q hq => absurd hq (by omega)
  have lp : ∀ (dd k : Nat), k + dd = 8 → ∀ (w : va_W) (H : Heap) (locs : List Loc) (ls : Array Slot) (A : Nat → Nat) (sf : Nat → Option Nat), w[b]? = some (h, .inr (2, [.int (nI N), .int (nI (2 * N)), .ref q30, .null, .null, .null, .null, .null, .int 0])) → w[b + 1]? = some (q30, .inl (cS, 8, .inr (.inr (.inr (.inr sf))))) → xPar cJ w b A (2 * N) k sf → A 0 = h → A 1 = q30 → gK b ws w → w.length = b + 2 + 5 * k → va_P D classes w H → va_D (va_A ws sz) w → va_S (va_A ws sz) s.heap H locs → lv_has ls 3 [(2, .int (nI k)), (0, .ref h), (1, .int x)] → W p l e ({ frames := 4, cells := 52, slots := 2239, locals := 66 } : Room) s m ([.ref h, .int x] : List Value).toArray below meth c H locs (1 + 5 * k) (8 + 208 * k) (MQ below (va_Qv (fun w => (∃ A sf, A 0 = h ∧ xAt cJ cS w b A (lr_N x) sf (fun _ => lr_K0 (2 * lr_N x)) (fun _ => lr_B0 (2 * lr_N x)) (fun _ => nI 0) (lr_K0 (2 * lr_N x)) (lr_B0 (2 * lr_N x)) (nI 0) (lr_K0 (2 * lr_N x)) (lr_K0 (2 * lr_N x)) (fun _ => 0) (fun _ => 0) (nI 0)) ∧ gK b ws w ∧ w.length = b + 53) (gw_B D classes (gT cJ cI cZ cS) ws sz) (va_A ws sz)) ([.ref h, .int x] : List Value).toArray s 52 2239 (va_A ws sz)) (F0 m 38 ls []) := by
    intro dd
    induction dd with
    | zero =>
      intro k e_k w H locs ls A sf x0 n30 hpar hA0 hA1 hfr hlen hP hD hS hl
      have e0 : k = 8 := by omega
      subst e0
      have hlen : w.length = b + 42 := by omega
      refine lv_iload_n hx hb d_X_init_38 rfl (lv_at hl 0 rfl) ?_
      refine lv_bipush (v := nI 8) hx hb d_X_init_39 (by decide) ?_
      refine lv_icmp_ge (tgt := 67) hx hb d_X_init_41 (by decide) (fun c1 => ?_) (fun c1 => ?_)
      · have c1 := (nI_leI (a := 8) (b := 8) (by omega) (by omega)).mp c1
        refine lv_aload_n hx hb d_X_init_67 rfl (lv_at hl 1 rfl) ?_
        refine g_new (L := b + 42) (T := F_S) (N := 4) (ci := 1) (fs := [.int 0, .null, .null, .int 0]) hF hT wu_S tt_S tt_S_ok wm_1_28 wm_1_30 wm_1_3 hK hP hD hS hA rfl (fun j hj => by rcases (show j = 0 ∨ j = 1 ∨ j = 2 ∨ j = 3 by omega) with rfl | rfl | rfl | rfl <;> rfl) (by omega) (by show _ ≤ 52; omega) (by show _ ≤ 2239; omega) d_X_init_68 (fun w q68 H n68 hfA hP hD hS => ?_)
        have x0 := hfA.at x0 (by omega)
        have n30 := hfA.at n30 (by omega)
        have hpar := hpar.A hfA (by omega)
        have hfr := hfr.a hfA (by omega)
        have hlen := hfA.2
        refine lv_dup hx hb d_X_init_71 rfl ?_
        refine lv_aload_n hx hb d_X_init_72 rfl (lv_at hl 1 rfl) ?_
        refine gf_X_22 hF hT hK hP x0 rfl d_X_init_73 ?_
        refine gw_cv (gc_X_31 (As := [.int (nI (2 * N))]) (rest := [.ref q68, .ref h]) hF hT (c_S_init n68 hlen hn he) ⟨(Nat.le_of_ble_eq_true rfl), (Nat.le_of_ble_eq_true rfl)⟩ rfl rfl hK hN hP hD rfl hl.1 rfl (Nat.le_of_ble_eq_true rfl) d_X_init_76 ⟨(by show _ ≤ 52; omega), (by show _ ≤ 2239; omega)⟩) hD hS hA (fun w H locs hw hP hD hS => ?_)
        obtain ⟨⟨a76, ea76, hs76⟩, hfK, hlen⟩ := hw
        have x0 := hfK.at x0 (by omega)
        have n30 := hfK.at n30 (by omega)
        have hpar := hpar.K hfK (by omega)
        have hfr := hfr.k hfK (by omega)
        refine gp_X_34 hF hT hnm hK hP hD hS (fs1 := [.int (nI N), .int (nI (2 * N)), .ref q30, .ref q68, .null, .null, .null, .null, .int 0]) x0 rfl rfl (Nat.le_of_ble_eq_true rfl) rfl d_X_init_79 (fun w H locs x0 hf hP hD hS => ?_)
        have n30 := hf.at n30 (by omega)
        have hpar := hpar.F hf (by omega)
        have hs76 := hs76.F hf (by omega)
        have hfr := hfr.f hf (by omega)
        have hlen := hf.2.trans hlen
        refine lv_aload_n hx hb d_X_init_82 rfl (lv_at hl 1 rfl) ?_
        refine g_new (L := b + 47) (T := F_T) (N := 2) (ci := 0) (fs := [.int 0, .null]) hF hT wu_T tt_T tt_T_ok wm_1_73 wm_1_36 wm_1_4 hK hP hD hS hA rfl (fun j hj => by rcases (show j = 0 ∨ j = 1 by omega) with rfl | rfl <;> rfl) (by omega) (by show _ ≤ 52; omega) (by show _ ≤ 2239; omega) d_X_init_83 (fun w q83 H n83 hfA hP hD hS => ?_)
        have x0 := hfA.at x0 (by omega)
        have n30 := hfA.at n30 (by omega)
        have hpar := hpar.A hfA (by omega)
        have hs76 := hs76.A hfA (by omega)
        have hfr := hfr.a hfA (by omega)
        have hlen := hfA.2
        refine lv_dup hx hb d_X_init_86 rfl ?_
        refine lv_aload_n hx hb d_X_init_87 rfl (lv_at hl 1 rfl) ?_
        refine gf_X_22 hF hT hK hP x0 rfl d_X_init_88 ?_
        refine gw_cv (gc_X_40 (As := [.int (nI (2 * N))]) (rest := [.ref q83, .ref h]) hF hT (c_T_init n83 hlen hn) ⟨(Nat.le_of_ble_eq_true rfl), (Nat.le_of_ble_eq_true rfl)⟩ rfl rfl hK hN hP hD rfl hl.1 rfl (Nat.le_of_ble_eq_true rfl) d_X_init_91 ⟨(by show _ ≤ 52; omega), (by show _ ≤ 2239; omega)⟩) hD hS hA (fun w H locs hw hP hD hS => ?_)
        obtain ⟨⟨g91, n83, n83c⟩, hfK, hlen⟩ := hw
        have x0 := hfK.at x0 (by omega)
        have n30 := hfK.at n30 (by omega)
        have hpar := hpar.K hfK (by omega)
        have hs76 := hs76.K hfK (by omega)
        have hfr := hfr.k hfK (by omega)
        refine gp_X_41 hF hT hnm hK hP hD hS (fs1 := [.int (nI N), .int (nI (2 * N)), .ref q30, .ref q68, .ref q83, .null, .null, .null, .int 0]) x0 rfl rfl (Nat.le_of_ble_eq_true rfl) rfl d_X_init_94 (fun w H locs x0 hf hP hD hS => ?_)
        have n30 := hf.at n30 (by omega)
        have n83 := hf.at n83 (by omega)
        have n83c := hf.at n83c (by omega)
        have hpar := hpar.F hf (by omega)
        have hs76 := hs76.F hf (by omega)
        have hfr := hfr.f hf (by omega)
        have hlen := hf.2.trans hlen
        refine lv_aload_n hx hb d_X_init_97 rfl (lv_at hl 1 rfl) ?_
        refine g_new (L := b + 49) (T := F_T) (N := 2) (ci := 0) (fs := [.int 0, .null]) hF hT wu_T tt_T tt_T_ok wm_1_73 wm_1_36 wm_1_4 hK hP hD hS hA rfl (fun j hj => by rcases (show j = 0 ∨ j = 1 by omega) with rfl | rfl <;> rfl) (by omega) (by show _ ≤ 52; omega) (by show _ ≤ 2239; omega) d_X_init_98 (fun w q98 H n98 hfA hP hD hS => ?_)
        have x0 := hfA.at x0 (by omega)
        have n30 := hfA.at n30 (by omega)
        have n83 := hfA.at n83 (by omega)
        have n83c := hfA.at n83c (by omega)
        have hpar := hpar.A hfA (by omega)
        have hs76 := hs76.A hfA (by omega)
        have hfr := hfr.a hfA (by omega)
        have hlen := hfA.2
        refine lv_dup hx hb d_X_init_101 rfl ?_
        refine lv_aload_n hx hb d_X_init_102 rfl (lv_at hl 1 rfl) ?_
        refine gf_X_22 hF hT hK hP x0 rfl d_X_init_103 ?_
        refine gw_cv (gc_X_40 (As := [.int (nI (2 * N))]) (rest := [.ref q98, .ref h]) hF hT (c_T_init n98 hlen hn) ⟨(Nat.le_of_ble_eq_true rfl), (Nat.le_of_ble_eq_true rfl)⟩ rfl rfl hK hN hP hD rfl hl.1 rfl (Nat.le_of_ble_eq_true rfl) d_X_init_106 ⟨(by show _ ≤ 52; omega), (by show _ ≤ 2239; omega)⟩) hD hS hA (fun w H locs hw hP hD hS => ?_)
        obtain ⟨⟨g106, n98, n98c⟩, hfK, hlen⟩ := hw
        have x0 := hfK.at x0 (by omega)
        have n30 := hfK.at n30 (by omega)
        have n83 := hfK.at n83 (by omega)
        have n83c := hfK.at n83c (by omega)
        have hpar := hpar.K hfK (by omega)
        have hs76 := hs76.K hfK (by omega)
        have hfr := hfr.k hfK (by omega)
        refine gp_X_45 hF hT hnm hK hP hD hS (fs1 := [.int (nI N), .int (nI (2 * N)), .ref q30, .ref q68, .ref q83, .ref q98, .null, .null, .int 0]) x0 rfl rfl (Nat.le_of_ble_eq_true rfl) rfl d_X_init_109 (fun w H locs x0 hf hP hD hS => ?_)
        have n30 := hf.at n30 (by omega)
        have n83 := hf.at n83 (by omega)
        have n83c := hf.at n83c (by omega)
        have n98 := hf.at n98 (by omega)
        have n98c := hf.at n98c (by omega)
        have hpar := hpar.F hf (by omega)
        have hs76 := hs76.F hf (by omega)
        have hfr := hfr.f hf (by omega)
        have hlen := hf.2.trans hlen
        refine lv_aload_n hx hb d_X_init_112 rfl (lv_at hl 1 rfl) ?_
        refine lv_aload_n hx hb d_X_init_113 rfl (lv_at hl 1 rfl) ?_
        refine gf_X_18 hF hT hK hP x0 rfl d_X_init_114 ?_
        refine g_newJ (L := b + 51) (t0 := 0) (k := N) hF hT hK hP hD hS hA rfl (by have := lr_nn hN5; omega) (by omega) (by show _ ≤ 52; omega) (by show _ ≤ 2239; omega) d_X_init_117 (fun w q117 H n117 hfA hP hD hS => ?_)
        have x0 := hfA.at x0 (by omega)
        have n30 := hfA.at n30 (by omega)
        have n83 := hfA.at n83 (by omega)
        have n83c := hfA.at n83c (by omega)
        have n98 := hfA.at n98 (by omega)
        have n98c := hfA.at n98c (by omega)
        have hpar := hpar.A hfA (by omega)
        have hs76 := hs76.A hfA (by omega)
        have hfr := hfr.a hfA (by omega)
        have hlen := hfA.2
        refine gp_X_48 hF hT hnm hK hP hD hS (fs1 := [.int (nI N), .int (nI (2 * N)), .ref q30, .ref q68, .ref q83, .ref q98, .ref q117, .null, .int 0]) x0 rfl rfl (Nat.le_of_ble_eq_true rfl) rfl d_X_init_119 (fun w H locs x0 hf hP hD hS => ?_)
        have n30 := hf.at n30 (by omega)
        have n83 := hf.at n83 (by omega)
        have n83c := hf.at n83c (by omega)
        have n98 := hf.at n98 (by omega)
        have n98c := hf.at n98c (by omega)
        have n117 := hf.at n117 (by omega)
        have hpar := hpar.F hf (by omega)
        have hs76 := hs76.F hf (by omega)
        have hfr := hfr.f hf (by omega)
        have hlen := hf.2.trans hlen
        refine lv_aload_n hx hb d_X_init_122 rfl (lv_at hl 1 rfl) ?_
        refine lv_iconst (v := nI 3) hx hb d_X_init_123 (by decide) ?_
        refine lv_aload_n hx hb d_X_init_124 rfl (lv_at hl 1 rfl) ?_
        refine gf_X_22 hF hT hK hP x0 rfl d_X_init_125 ?_
        refine lv_imul hx hb d_X_init_128 ?_
        refine gx_i (y := nI (3 * (2 * N))) (pk_mul _ _) ?_
        refine lv_aload_n hx hb d_X_init_129 rfl (lv_at hl 1 rfl) ?_
        refine gf_X_22 hF hT hK hP x0 rfl d_X_init_130 ?_
        refine lv_imul hx hb d_X_init_133 ?_
        refine gx_i (y := nI ((3 * (2 * N)) * (2 * N))) (pk_mul _ _) ?_
        refine lv_iconst (v := nI 2) hx hb d_X_init_134 (by decide) ?_
        refine lv_idiv hx hb d_X_init_135 (by decide) ?_
        refine gx_i (y := nI (6 * (N * N))) (by rw [pk_div (by omega) (by omega) (by omega), hn6.1]) ?_
        refine g_newJ (L := b + 52) (t0 := 0) (k := 6 * (N * N)) hF hT hK hP hD hS hA rfl (by have := lr_nn hN5; omega) (by omega) (by show _ ≤ 52; omega) (by show _ ≤ 2239; omega) d_X_init_136 (fun w q136 H n136 hfA hP hD hS => ?_)
        have x0 := hfA.at x0 (by omega)
        have n30 := hfA.at n30 (by omega)
        have n83 := hfA.at n83 (by omega)
        have n83c := hfA.at n83c (by omega)
        have n98 := hfA.at n98 (by omega)
        have n98c := hfA.at n98c (by omega)
        have n117 := hfA.at n117 (by omega)
        have hpar := hpar.A hfA (by omega)
        have hs76 := hs76.A hfA (by omega)
        have hfr := hfr.a hfA (by omega)
        have hlen := hfA.2
        refine gp_X_52 hF hT hnm hK hP hD hS (fs1 := [.int (nI N), .int (nI (2 * N)), .ref q30, .ref q68, .ref q83, .ref q98, .ref q117, .ref q136, .int 0]) x0 rfl rfl (Nat.le_of_ble_eq_true rfl) rfl d_X_init_138 (fun w H locs x0 hf hP hD hS => ?_)
        have n30 := hf.at n30 (by omega)
        have n83 := hf.at n83 (by omega)
        have n83c := hf.at n83c (by omega)
        have n98 := hf.at n98 (by omega)
        have n98c := hf.at n98c (by omega)
        have n117 := hf.at n117 (by omega)
        have n136 := hf.at n136 (by omega)
        have hpar := hpar.F hf (by omega)
        have hs76 := hs76.F hf (by omega)
        have hfr := hfr.f hf (by omega)
        have hlen := hf.2.trans hlen
        refine lv_aload_n hx hb d_X_init_141 rfl (lv_at hl 1 rfl) ?_
        refine lv_iconst (v := nI 0) hx hb d_X_init_142 (by decide) ?_
        refine gp_X_55 hF hT hK hP hD hS (fs1 := [.int (nI N), .int (nI (2 * N)), .ref q30, .ref q68, .ref q83, .ref q98, .ref q117, .ref q136, .int (nI 0)]) x0 rfl rfl (Nat.le_of_ble_eq_true rfl) rfl d_X_init_143 (fun w H locs x0 hf hP hD hS => ?_)
        have n30 := hf.at n30 (by omega)
        have n83 := hf.at n83 (by omega)
        have n83c := hf.at n83c (by omega)
        have n98 := hf.at n98 (by omega)
        have n98c := hf.at n98c (by omega)
        have n117 := hf.at n117 (by omega)
        have n136 := hf.at n136 (by omega)
        have hpar := hpar.F hf (by omega)
        have hs76 := hs76.F hf (by omega)
        have hfr := hfr.f hf (by omega)
        have hlen := hf.2.trans hlen
        exact gw_vret hx hb hr hlocks hK hP hD hS (by omega) (by first | omega | (have := lr_sq1 hn; omega)) d_X_init_146 ⟨lr_xi hNx hA0 hA1 x0 n30 hpar ea76 hs76 n83 n83c n98 n98c n117 n136, hfr, hlen⟩
      · have c1 : ¬ (8 ≤ 8) := fun z => c1 ((nI_leI (a := 8) (b := 8) (by omega) (by omega)).mpr z)
        exfalso; omega
    | succ dd ih =>
      intro k e_k w H locs ls A sf x0 n30 hpar hA0 hA1 hfr hlen hP hD hS hl
      refine lv_iload_n hx hb d_X_init_38 rfl (lv_at hl 0 rfl) ?_
      refine lv_bipush (v := nI 8) hx hb d_X_init_39 (by decide) ?_
      refine lv_icmp_ge (tgt := 67) hx hb d_X_init_41 (by decide) (fun c2 => ?_) (fun c2 => ?_)
      · have c2 := (nI_leI (a := 8) (b := k) (by omega) (by omega)).mp c2
        exfalso; omega
      · have c2 : ¬ (8 ≤ k) := fun z => c2 ((nI_leI (a := 8) (b := k) (by omega) (by omega)).mpr z)
        refine lv_aload_n hx hb d_X_init_44 rfl (lv_at hl 1 rfl) ?_
        refine gf_X_27 hF hT hK hP x0 rfl d_X_init_45 ?_
        refine lv_iload_n hx hb d_X_init_48 rfl (lv_at hl 0 rfl) ?_
        refine g_new (L := b + 2 + 5 * k) (T := F_S) (N := 4) (ci := 1) (fs := [.int 0, .null, .null, .int 0]) hF hT wu_S tt_S tt_S_ok wm_1_28 wm_1_30 wm_1_3 hK hP hD hS hA rfl (fun j hj => by rcases (show j = 0 ∨ j = 1 ∨ j = 2 ∨ j = 3 by omega) with rfl | rfl | rfl | rfl <;> rfl) (by omega) (by show _ ≤ 52; omega) (by show _ ≤ 2239; omega) d_X_init_49 (fun w q49 H n49 hfA hP hD hS => ?_)
        have x0 := hfA.at x0 (by omega)
        have n30 := hfA.at n30 (by omega)
        have hpar := hpar.A hfA (by omega)
        have hfr := hfr.a hfA (by omega)
        have hlen := hfA.2
        refine lv_dup hx hb d_X_init_52 rfl ?_
        refine lv_aload_n hx hb d_X_init_53 rfl (lv_at hl 1 rfl) ?_
        refine gf_X_22 hF hT hK hP x0 rfl d_X_init_54 ?_
        refine gw_cv (gc_X_31 (As := [.int (nI (2 * N))]) (rest := [.ref q49, .int (nI k), .ref q30]) hF hT (c_S_init n49 hlen hn he) ⟨(Nat.le_of_ble_eq_true rfl), (Nat.le_of_ble_eq_true rfl)⟩ rfl rfl hK hN hP hD rfl hl.1 rfl (Nat.le_of_ble_eq_true rfl) d_X_init_57 ⟨(by show _ ≤ 52; omega), (by show _ ≤ 2239; omega)⟩) hD hS hA (fun w H locs hw hP hD hS => ?_)
        obtain ⟨⟨a57, ea57, hs57⟩, hfK, hlen⟩ := hw
        have x0 := hfK.at x0 (by omega)
        have n30 := hfK.at n30 (by omega)
        have hpar := hpar.K hfK (by omega)
        have hfr := hfr.k hfK (by omega)
        refine g_aast (t0 := 3) (ci := 1) (k := k) hx hb hK hP hD hS n30 rfl (by rw [← ea57]; exact hs57.1) rfl (by omega) (by omega) d_X_init_60 (fun w H locs n30 hf hP hD hS => ?_)
        have x0 := hf.at x0 (by omega)
        have hpar := hpar.F hf (by omega)
        have hs57 := hs57.F hf (by omega)
        have hfr := hfr.f hf (by omega)
        have hlen := hf.2.trans hlen
        refine lv_iinc (v := nI (k + 1)) (lv' := [(2, .int (nI (k + 1))), (0, .ref h), (1, .int x)]) hx hb d_X_init_61 hl (k := 0) rfl (gx_inc _) (by decide) rfl (fun ls hl => ?_)
        refine lv_goto (tgt := 38) hx hb d_X_init_64 (by decide) ?_
        rw [← ea57] at n30
        have hpar := hpar.add hs57
        refine W.widen (k := 1 + 5 * (k + 1)) (n := 8 + 208 * (k + 1)) (by omega) (by omega) ?_
        exact ih (k + 1) (by omega) _ _ _ _ _ _ x0 n30 hpar (by rw [xJoin_lo (by omega)]; exact hA0) (by rw [xJoin_lo (by omega)]; exact hA1) hfr (by omega) hP hD hS (lv_sub hl [0, 1, 2] rfl)
  exact lp 8 0 (by omega) _ _ _ _ _ _ x0 n30 hpar rfl rfl hfr hlen hP hD hS (lv_sub hl [0, 1, 2] rfl)
