/-! THE LAW, from its entry -/
theorem xFam.K {cJ : ClassId} {ws w : va_W} {b n t : Nat} {A : Nat → Nat} {K B : Nat → Nat → Int64} {E : Nat → Int32} (h : xFam cJ ws b A n K B E) (hf : gK t ws w) (ho : b + 42 ≤ t) : xFam cJ w b A n K B E := fun k hk => ⟨(h k hk).1.K hf (by omega), (h k hk).2⟩
theorem xAt.K {cJ cS : ClassId} {ws w : va_W} {b t : Nat} {A : Nat → Nat} {N : Nat} {sf : Nat → Option Nat} {K B : Nat → Nat → Int64} {E : Nat → Int32} {Km Bm : Nat → Int64} {Em : Int32} {Lf Tr nu ne : Nat → Int64} {ct : Int32} (h : xAt cJ cS ws b A N sf K B E Km Bm Em Lf Tr nu ne ct) (hf : gK t ws w) (ho : b + 53 ≤ t) : xAt cJ cS w b A N sf K B E Km Bm Em Lf Tr nu ne ct := by
  obtain ⟨h1, h2, h3, h4, h5, h6, h7, h8, h9⟩ := h
  exact ⟨hf.at h1 (by omega), hf.at h2 (by omega), h3, h4.K hf (by omega), h5.K hf (by omega), h6.K hf (by omega), h7.K hf (by omega), hf.at h8 (by omega), hf.at h9 (by omega)⟩
theorem mS.K {cJ cI cZ : ClassId} {ws w : va_W} {b N nm t : Nat} {A : Nat → Nat} {th : Int32} {R Pt nC : Nat → Int64} {Em nA nB : Nat → Int32} (h : mS cJ cI cZ ws b A N th nm R Em Pt nA nB nC) (hf : gK t ws w) (ho : b + 11 ≤ t) : mS cJ cI cZ w b A N th nm R Em Pt nA nB nC := by
  obtain ⟨D, O, Md, Lf, h0, h1, h2, h3, h4, h5, h6, h7, h8, h9, h10⟩ := h
  exact ⟨D, O, Md, Lf, hf.at h0 (by omega), hf.at h1 (by omega), hf.at h2 (by omega), hf.at h3 (by omega), hf.at h4 (by omega), hf.at h5 (by omega), hf.at h6 (by omega), hf.at h7 (by omega), hf.at h8 (by omega), hf.at h9 (by omega), hf.at h10 (by omega)⟩
set_option maxHeartbeats 4000000 in
set_option maxRecDepth 100000 in
theorem whole_start {p : Program} {e : Env} {s : State} {m : MethodId} {below : List Frame} {meth : Method} {c : Code} (l : Launch) (hlt : l.stackTraces = false) {b L : Nat} {xs : Nat → Int32} (hL : L ≤ 3073) (C0 : lw_At p s m meth c b L xs) : W p l e room_1 s m #[Value.ref b] below meth c s.heap [] 0 0 (lw_Z below #[Value.ref b] s) (entryFrame m ([Value.ref b] : List Value).toArray 8) := by
  obtain ⟨hx, hb, hr, hml, hown, hts, hX, hbl, hlocks, hgv⟩ := id C0
  have hown : s.vm.findClass R_L = some m.cls := hown
  have hT : ∀ w ∈ wG, w ∈ lw_tbl := fun w h => (List.mem_filter.mp h).1
  have hF : CallFix p m c code 8 s #[Value.ref b] lw_tbl R_L := ⟨hx, hb, hml, hown, hts⟩
  have ht1 : ∀ w ∈ tables_1, w.before #[Value.ref b] s = true := fun w h => hts w (List.mem_append_right _ h)
  have hN := lw_gN ht1
  have hE := lw_gE ht1 hgv
  have hC := lw_gC hgv
  have hO : va_AO "LinearRows$Shape" s := va_AO.of (ht1 _ wk_o)
  obtain ⟨D, cJ, cI, cZ, cS, hK⟩ := lw_K hts
  have hA : ∀ q, s.heap.size ≤ q → va_A [] s.heap.size q := fun q h => Or.inr h
  have hB : ∀ q, va_A [] s.heap.size q → s.heap.size ≤ q := fun q h => by
    rcases h with ⟨k, e, h⟩ | h
    · exact absurd h (by simp)
    · exact h
  have hbA : ¬ va_A [] s.heap.size b := fun h => Nat.not_le.mpr hbl (hB b h)
  have hDb : ∀ w : va_W, va_D (va_A [] s.heap.size) w → va_D (fun q => q ≠ b) w := fun w h => h.weaken (fun _ _ _ h e => hbA (e ▸ h))
  have hXm : ∀ (H : Heap) (locs : List Loc), va_S (va_A [] s.heap.size) s.heap H locs → va_X b L xs s H := fun H locs h => hX.kept (h.2.1 b hbl hbA)
  have hbm : ∀ (H : Heap) (locs : List Loc), va_S (va_A [] s.heap.size) s.heap H locs → b < H.size := fun H locs h => Nat.lt_of_lt_of_le hbl h.1
  have hP : va_P D classes [] s.heap := fun k q h => by simp at h
  have hD : va_D (va_A [] s.heap.size) [] := ⟨fun i j p q h => by simp at h, fun k q h => by simp at h⟩
  have hS : va_S (va_A [] s.heap.size) s.heap s.heap [] := va_S.rf
  have hl := lv_entry ([.ref b]) (n := 8) (Nat.le_of_ble_eq_true rfl)
  rw [lg_entry_eq]
  generalize (lg_sl ([.ref b]) ++ List.replicate (8 - (lg_sl ([.ref b])).length) Slot.unset).toArray = ls at hl ⊢
  have hl : lv_has ls 8 [(0, .ref b)] := hl
  refine g_new (L := 0) (T := F_X) (N := 9) (ci := 2) (fs := [.int 0, .int 0, .null, .null, .null, .null, .null, .null, .int 0]) hF hT wu_X tt_X tt_X_ok wm_1_14 wm_1_15 wm_1_1 hK hP hD hS hA rfl (fun j hj => by rcases (show j = 0 ∨ j = 1 ∨ j = 2 ∨ j = 3 ∨ j = 4 ∨ j = 5 ∨ j = 6 ∨ j = 7 ∨ j = 8 by omega) with rfl | rfl | rfl | rfl | rfl | rfl | rfl | rfl | rfl <;> rfl) rfl (Nat.le_of_ble_eq_true rfl) (Nat.le_of_ble_eq_true rfl) d_L_law_0 (fun w0 q0 H n0 hf0 hP hD hS => ?_)
  refine lv_dup hx hb d_L_law_3 rfl ?_
  refine lv_aload_n hx hb d_L_law_4 rfl (lv_at hl 0 rfl) ?_
  refine lv_iconst (v := nI 0) hx hb d_L_law_5 (by decide) ?_
  refine gw_ci0 (post := fun r => r = (if 0 < L then xs 0 else nI 0)) (gs_rS (n := 2) (As := [.ref b, .int (nI 0)]) (rest := [.ref q0, .ref q0]) hF hT (c_L_cell hL) wm_1_103 wm_1_104 wm_1_0 wm_1_105 (by decide +kernel) ⟨Nat.le_of_ble_eq_true rfl, Nat.le_of_ble_eq_true rfl⟩ rfl rfl hK hN hP (hDb _ hD) (hXm _ _ hS) (hbm _ _ hS) rfl hl.1 rfl (Nat.le_of_ble_eq_true rfl) d_L_law_6 ⟨Nat.le_of_ble_eq_true rfl, Nat.le_of_ble_eq_true rfl⟩) hD hS hA (fun r H locs hr1 hP hD hS => ?_)
  refine gw_cv (gi_rI (n := 1) (q := q0) (As := [.int r]) (rest := [.ref q0]) hF hT (c_X_init n0 hf0.2) wm_1_16 wm_1_17 wm_1_1 wm_1_18 rfl (by decide +kernel) ⟨Nat.le_of_ble_eq_true rfl, Nat.le_of_ble_eq_true rfl⟩ rfl rfl hK hN hO hP hD rfl hl.1 rfl (Nat.le_of_ble_eq_true rfl) d_L_law_9 ⟨Nat.le_of_ble_eq_true rfl, Nat.le_of_ble_eq_true rfl⟩) hD hS hA (fun w1 H locs hw hP hD hS => ?_)
  obtain ⟨⟨A, sf, hA0, hx1⟩, -, hlen1⟩ := hw
  subst hA0
  refine lv_astore_n (lv' := [(1, .ref (A 0)), (0, .ref b)]) hx hb d_L_law_12 rfl hl (by decide) rfl (fun ls hl => ?_)
  refine g_new (L := 53) (T := F_M) (N := 13) (ci := 3) (fs := [.int 0, .int 0, .null, .null, .null, .null, .null, .null, .int 0, .null, .null, .null, .null]) hF hT wu_M tt_M tt_M_ok wm_3_118 wm_3_119 wm_1_6 hK hP hD hS hA rfl (fun j hj => by rcases (show j = 0 ∨ j = 1 ∨ j = 2 ∨ j = 3 ∨ j = 4 ∨ j = 5 ∨ j = 6 ∨ j = 7 ∨ j = 8 ∨ j = 9 ∨ j = 10 ∨ j = 11 ∨ j = 12 by omega) with rfl | rfl | rfl | rfl | rfl | rfl | rfl | rfl | rfl | rfl | rfl | rfl | rfl <;> rfl) hlen1 (Nat.le_of_ble_eq_true rfl) (Nat.le_of_ble_eq_true rfl) d_L_law_13 (fun w2 q2 H n2 hf2 hP hD hS => ?_)
  have hx2 := hx1.K (t := 53) hf2.1 (by omega)
  refine lv_dup hx hb d_L_law_16 rfl ?_
  refine lv_aload_n hx hb d_L_law_17 rfl (lv_at hl 1 rfl) ?_
  refine lv_iconst (v := nI 0) hx hb d_L_law_18 (by decide) ?_
  refine gw_ci0 (post := fun r => r = (if 0 < L then xs 0 else nI 0)) (gs_rS (n := 2) (As := [.ref b, .int (nI 0)]) (rest := [.ref q2, .ref q2]) hF hT (c_L_cell hL) wm_1_103 wm_1_104 wm_1_0 wm_1_105 (by decide +kernel) ⟨Nat.le_of_ble_eq_true rfl, Nat.le_of_ble_eq_true rfl⟩ rfl rfl hK hN hP (hDb _ hD) (hXm _ _ hS) (hbm _ _ hS) rfl hl.1 rfl (Nat.le_of_ble_eq_true rfl) d_L_law_19 ⟨Nat.le_of_ble_eq_true rfl, Nat.le_of_ble_eq_true rfl⟩) hD hS hA (fun r2 H locs hr2 hP hD hS => ?_)
  have e2 : r2 = r := hr2.trans hr1.symm
  subst e2
  refine gw_cv (gc_L_101 (As := [.int r2]) (rest := [.ref q2]) hF hT (c_M_init n2 hf2.2) ⟨Nat.le_of_ble_eq_true rfl, Nat.le_of_ble_eq_true rfl⟩ rfl rfl hK hN hP hD rfl hl.1 rfl (Nat.le_of_ble_eq_true rfl) d_L_law_22 ⟨Nat.le_of_ble_eq_true rfl, Nat.le_of_ble_eq_true rfl⟩) hD hS hA (fun w3 H locs hw hP hD hS => ?_)
  obtain ⟨⟨A2, hA2, hM3⟩, hk3, hlen3⟩ := hw
  subst hA2
  have hx3 := hx2.K hk3 (by omega)
  refine lv_astore_n (lv' := [(2, .ref (A2 0)), (1, .ref (A 0)), (0, .ref b)]) hx hb d_L_law_25 rfl hl (by decide) rfl (fun ls hl => ?_)
  refine lv_iconst (v := nI 1) hx hb d_L_law_26 (by decide) ?_
  refine g_newJ (t0 := 0) (k := 1) (L := 64) hF hT hK hP hD hS hA rfl (by omega) hlen3 (Nat.le_of_ble_eq_true rfl) (Nat.le_of_ble_eq_true rfl) d_L_law_27 (fun w4 o H n4 hf4 hP hD hS => ?_)
  have hx4 := hx3.K (t := 64) hf4.1 (by omega)
  have hM4 := hM3.K (t := 64) hf4.1 (by omega)
  refine lv_astore_n (lv' := [(3, .ref o), (2, .ref (A2 0)), (1, .ref (A 0)), (0, .ref b)]) hx hb d_L_law_29 rfl hl (by decide) rfl (fun ls hl => ?_)
  refine lv_iconst (v := nI 1) hx hb d_L_law_30 (by decide) ?_
  refine lv_istore (lv' := [(4, .int (nI 1)), (3, .ref o), (2, .ref (A2 0)), (1, .ref (A 0)), (0, .ref b)]) hx hb d_L_law_31 hl (by decide) rfl (fun ls hl => ?_)
  have hI : LI cJ cI cZ cS A A2 o (lr_N r2) sf w4 := ⟨_, _, _, _, _, _, _, _, _, _, 0, _, _, _, _, _, _, _, hx4, hM4, ⟨_, n4⟩, iv_start, iv_startP, iv_startN, Or.inl rfl, Nat.zero_le _⟩
  exact law_loop hlt hF hr hlocks hK hN hE hC hX hbl hL (lr_N_1 r2) (lr_N_5 r2) 512 1 (by omega) (by omega) w4 H locs _ _ ls hI hP hD hS (Nat.le_of_ble_eq_true rfl) (Nat.le_of_ble_eq_true rfl) hl
