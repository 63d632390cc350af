/-! the law's cases; written by program -/
set_option maxHeartbeats 4000000 in
set_option maxRecDepth 100000 in
theorem lc_has {p : Program} {l : Launch} {e : Env} {s : State} {m : MethodId} {below : List Frame} {meth : Method} {c : Code} {b L : Nat} {xs : Nat → Int32} {D : va_G} {cJ cI cZ cS : ClassId} {A A2 : Nat → Nat} {o N : Nat} {sf : Nat → Option Nat} {i : Nat} {w : va_W} {H : Heap} {locs : List Loc} {cells slots : Nat} {ls : Array Slot} {Q : State → Prop} (hlt : l.stackTraces = false) (hF : CallFix p m c code 8 s #[Value.ref b] lw_tbl R_L) (hK : va_K D classes (gT cJ cI cZ cS) s) (hN : gN s) (hE : gE s.heap.size s s.heap) (hC : gC s) (hX : va_X b L xs s s.heap) (hbl : b < s.heap.size) (hi : i + 6 ≤ L) (hL : L ≤ 3073) (hN1 : 1 ≤ N) (hN5 : N ≤ 5) (hI : LI cJ cI cZ cS A A2 o N sf w) (hP : va_P D classes w H) (hD : va_D (va_A [] s.heap.size) w) (hS : va_S (va_A [] s.heap.size) s.heap H locs) (hc : cells + 5 ≤ 601024) (hs : slots + 30 ≤ 7292999) (hl : lv_has ls 8 [(4, .int (nI i)), (3, .ref o), (2, .ref (A2 0)), (1, .ref (A 0)), (0, .ref b)]) (kk : ∀ (w : va_W) (H : Heap) (locs : List Loc) (ls : Array Slot), LI cJ cI cZ cS A A2 o N sf w → va_P D classes w H → va_D (va_A [] s.heap.size) w → va_S (va_A [] s.heap.size) s.heap H locs → lv_has ls 8 [(4, .int (nI i)), (3, .ref o), (2, .ref (A2 0)), (1, .ref (A 0)), (0, .ref b)] → W p l e room_1 s m #[Value.ref b] below meth c H locs (cells + 5) (slots + 30) Q (F0 m 1727 ls [])) : W p l e room_1 s m #[Value.ref b] below meth c H locs cells slots Q (F0 m 1255 ls []) := by
  have hx := hF.1
  have hb := hF.2.1
  have hown := hF.2.2.2.1
  have hts := hF.2.2.2.2
  have hT : ∀ w ∈ wG, w ∈ lw_tbl := fun w h => (List.mem_filter.mp h).1
  have hA : ∀ q, s.heap.size ≤ q → va_A [] s.heap.size q := fun q h => Or.inr h
  have hB : ∀ q, va_A [] s.heap.size q → s.heap.size ≤ q := fun q h => by
    rcases h with ⟨k, e, h⟩ | h
    · exact absurd h (by simp)
    · exact h
  have hbA : ¬ va_A [] s.heap.size b := fun h => Nat.not_le.mpr hbl (hB b h)
  obtain ⟨K, B, E, Km, Bm, Em, Lf, Tr, nu, ne, m1, th, R, EM, Pt, nA, nB, nC, hX0⟩ := hI
  have hx0 := hX0.1
  obtain ⟨f, ho⟩ := hX0.2.2.1
  have hA0 := hX0.2.2.2.1
  have hEm := hX0.2.2.2.2.2.2.1
  have hm1 := hX0.2.2.2.2.2.2.2
  refine lv_aload_n hx hb d_L_law_1255 rfl (lv_at hl 3 rfl) ?_
  refine lv_aload_n hx hb d_L_law_1256 rfl (lv_at hl 4 rfl) ?_
  refine lv_iload hx hb d_L_law_1257 (lv_at hl 0 rfl) ?_
  refine lv_iconst (v := nI 1) hx hb d_L_law_1259 (by decide) ?_
  refine lv_iadd hx hb d_L_law_1260 ?_
  refine gx_i (y := nI (i + 1)) (nI_add _ _) ?_
  refine gl_ld (j := i + 1) hx hb hX hbl hbA hS (by omega) hL d_L_law_1261 ?_
  refine lv_aload_n hx hb d_L_law_1262 rfl (lv_at hl 1 rfl) ?_
  refine gw_ci (gh_rS (n := 3) (As := [.ref (A 0), .int (xs (i + 1)), .ref o]) (rest := []) hF hT (hc_has (q0 := 0) (bo := 64) (o := o) (f := f) hx0.1 ho (fun r w h => by rw [h.2]) (fun Z w h => h.1) (c_X_has hlt hx0 hN1 hN5)) wm_3_11 wm_3_12 wm_1_0 wm_3_13 (by decide +kernel) ⟨(Nat.le_of_ble_eq_true rfl), (Nat.le_of_ble_eq_true rfl)⟩ rfl rfl (gh_pre hK hN hP hD hS hB hA hE hC) rfl hl.1 rfl (Nat.le_of_ble_eq_true rfl) d_L_law_1263 ⟨(by show _ ≤ 601024; omega), (by show _ ≤ 7292999; omega)⟩) hD hS hA (fun r w1 H locs hw hP hD hS => ?_)
  obtain ⟨hM1, hQ⟩ := lo_has hN1 hN5 hX0 hw
  have hF1 : lm_F N R EM (fun k => iv_mat N (B k)) := iv_F hN5 hA0
  refine lv_istore (lv' := [(5, .int r), (4, .int (nI i)), (3, .ref o), (2, .ref (A2 0)), (1, .ref (A 0)), (0, .ref b)]) hx hb d_L_law_1266 hl (by decide) rfl (fun ls hl => ?_)
  refine lv_aload_n hx hb d_L_law_1268 rfl (lv_at hl 3 rfl) ?_
  refine lv_aload_n hx hb d_L_law_1269 rfl (lv_at hl 5 rfl) ?_
  refine lv_iload hx hb d_L_law_1270 (lv_at hl 1 rfl) ?_
  refine lv_iconst (v := nI 1) hx hb d_L_law_1272 (by decide) ?_
  refine lv_iadd hx hb d_L_law_1273 ?_
  refine gx_i (y := nI (i + 1)) (nI_add _ _) ?_
  refine gl_ld (j := i + 1) hx hb hX hbl hbA hS (by omega) hL d_L_law_1274 ?_
  refine gw_ci (gc_L_159 (As := [.int (xs (i + 1))]) (rest := []) hF hT (c_M_has hM1 hN1 hN5) ⟨(Nat.le_of_ble_eq_true rfl), (Nat.le_of_ble_eq_true rfl)⟩ rfl rfl hK hN hP hD hM1.obj rfl hl.1 rfl (Nat.le_of_ble_eq_true rfl) d_L_law_1275 ⟨(by show _ ≤ 601024; omega), (by show _ ≤ 7292999; omega)⟩) hD hS hA (fun r' w2 H locs hw2 hP hD hS => ?_)
  obtain ⟨⟨⟨nm, hobj⟩, hLI⟩, f2, ho2, hv⟩ := hQ r' w2 hw2
  refine lv_istore (lv' := [(6, .int r'), (5, .int r), (4, .int (nI i)), (3, .ref o), (2, .ref (A2 0)), (1, .ref (A 0)), (0, .ref b)]) hx hb d_L_law_1278 hl (by decide) rfl (fun ls hl => ?_)
  refine lv_aload_n hx hb d_L_law_1280 rfl (lv_at hl 4 rfl) ?_
  refine gw_ci0 (gc_L_106 (As := []) (rest := []) hF hT (c_M_thrown hobj hN1 hN5) ⟨(Nat.le_of_ble_eq_true rfl), (Nat.le_of_ble_eq_true rfl)⟩ rfl rfl hK hN hP hD hobj rfl hl.1 rfl (Nat.le_of_ble_eq_true rfl) d_L_law_1281 ⟨(by show _ ≤ 601024; omega), (by show _ ≤ 7292999; omega)⟩) hD hS hA (fun r3 H locs e3 hP hD hS => ?_)
  subst e3
  refine lv_iload hx hb d_L_law_1284 (lv_at hl 1 rfl) ?_
  refine lv_icmp_eq (tgt := 1291) hx hb d_L_law_1286 (by decide) (fun c => ?_) (fun c => absurd rfl c)
  refine lv_iload hx hb d_L_law_1291 (lv_at hl 1 rfl) ?_
  refine lv_if_ne (tgt := 1315) hx hb d_L_law_1293 (by decide) (fun c => ?_) (fun c => ?_)
  · refine lv_goto (tgt := 1727) hx hb d_L_law_1315 (by decide) ?_
    refine W.widen (k := cells + 5) (n := slots + 30) (by omega) (by omega) ?_
    exact kk _ _ _ _ hLI hP hD hS (lv_sub hl [2, 3, 4, 5, 6] rfl)
  · refine lv_aload_n hx hb d_L_law_1296 rfl (lv_at hl 3 rfl) ?_
    refine lv_iconst (v := nI 0) hx hb d_L_law_1297 (by decide) ?_
    refine g_lald (t0 := 0) (k := 0) hx hb hK hP ho2 rfl (by omega) (by omega) d_L_law_1298 ?_
    refine lv_iload hx hb d_L_law_1299 (lv_at hl 0 rfl) ?_
    refine lv_if_eq (tgt := 1308) hx hb d_L_law_1301 (by decide) (fun c9 => ?_) (fun c9 => ?_)
    · refine lv_lconst (v := 0) hx hb d_L_law_1308 rfl ?_
      refine gx_leq (tgt := 1315) hx hb d_L_law_1309 d_L_law_1310 (by decide) (fun c8 => ?_) (fun c8 => absurd ((hv (c.trans nI_0.symm)).trans (if_pos c9)) c8)
      refine lv_goto (tgt := 1727) hx hb d_L_law_1315 (by decide) ?_
      refine W.widen (k := cells + 5) (n := slots + 30) (by omega) (by omega) ?_
      exact kk _ _ _ _ hLI hP hD hS (lv_sub hl [2, 3, 4, 5, 6] rfl)
    · refine lv_lconst (v := 1) hx hb d_L_law_1304 rfl ?_
      refine lv_goto (tgt := 1309) hx hb d_L_law_1305 (by decide) ?_
      refine gx_leq (tgt := 1315) hx hb d_L_law_1309 d_L_law_1310 (by decide) (fun c8 => ?_) (fun c8 => absurd ((hv (c.trans nI_0.symm)).trans (if_neg c9)) c8)
      refine lv_goto (tgt := 1727) hx hb d_L_law_1315 (by decide) ?_
      refine W.widen (k := cells + 5) (n := slots + 30) (by omega) (by omega) ?_
      exact kk _ _ _ _ hLI hP hD hS (lv_sub hl [2, 3, 4, 5, 6] rfl)

set_option maxHeartbeats 4000000 in
set_option maxRecDepth 100000 in
theorem lc_sample {p : Program} {l : Launch} {e : Env} {s : State} {m : MethodId} {below : List Frame} {meth : Method} {c : Code} {b L : Nat} {xs : Nat → Int32} {D : va_G} {cJ cI cZ cS : ClassId} {A A2 : Nat → Nat} {o N : Nat} {sf : Nat → Option Nat} {i : Nat} {w : va_W} {H : Heap} {locs : List Loc} {cells slots : Nat} {ls : Array Slot} {Q : State → Prop} (hlt : l.stackTraces = false) (hF : CallFix p m c code 8 s #[Value.ref b] lw_tbl R_L) (hK : va_K D classes (gT cJ cI cZ cS) s) (hN : gN s) (hE : gE s.heap.size s s.heap) (hC : gC s) (hX : va_X b L xs s s.heap) (hbl : b < s.heap.size) (hi : i + 6 ≤ L) (hL : L ≤ 3073) (hN1 : 1 ≤ N) (hN5 : N ≤ 5) (hI : LI cJ cI cZ cS A A2 o N sf w) (hP : va_P D classes w H) (hD : va_D (va_A [] s.heap.size) w) (hS : va_S (va_A [] s.heap.size) s.heap H locs) (hc : cells + 5 ≤ 601024) (hs : slots + 30 ≤ 7292999) (hl : lv_has ls 8 [(4, .int (nI i)), (3, .ref o), (2, .ref (A2 0)), (1, .ref (A 0)), (0, .ref b)]) (kk : ∀ (w : va_W) (H : Heap) (locs : List Loc) (ls : Array Slot), LI cJ cI cZ cS A A2 o N sf w → va_P D classes w H → va_D (va_A [] s.heap.size) w → va_S (va_A [] s.heap.size) s.heap H locs → lv_has ls 8 [(4, .int (nI i)), (3, .ref o), (2, .ref (A2 0)), (1, .ref (A 0)), (0, .ref b)] → W p l e room_1 s m #[Value.ref b] below meth c H locs (cells + 5) (slots + 30) Q (F0 m 1727 ls [])) : W p l e room_1 s m #[Value.ref b] below meth c H locs cells slots Q (F0 m 1318 ls []) := by
  have hx := hF.1
  have hb := hF.2.1
  have hown := hF.2.2.2.1
  have hts := hF.2.2.2.2
  have hT : ∀ w ∈ wG, w ∈ lw_tbl := fun w h => (List.mem_filter.mp h).1
  have hA : ∀ q, s.heap.size ≤ q → va_A [] s.heap.size q := fun q h => Or.inr h
  have hB : ∀ q, va_A [] s.heap.size q → s.heap.size ≤ q := fun q h => by
    rcases h with ⟨k, e, h⟩ | h
    · exact absurd h (by simp)
    · exact h
  have hbA : ¬ va_A [] s.heap.size b := fun h => Nat.not_le.mpr hbl (hB b h)
  obtain ⟨K, B, E, Km, Bm, Em, Lf, Tr, nu, ne, m1, th, R, EM, Pt, nA, nB, nC, hX0⟩ := hI
  have hx0 := hX0.1
  obtain ⟨f, ho⟩ := hX0.2.2.1
  have hA0 := hX0.2.2.2.1
  have hEm := hX0.2.2.2.2.2.2.1
  have hm1 := hX0.2.2.2.2.2.2.2
  refine lv_aload_n hx hb d_L_law_1318 rfl (lv_at hl 3 rfl) ?_
  refine lv_aload_n hx hb d_L_law_1319 rfl (lv_at hl 4 rfl) ?_
  refine lv_iload hx hb d_L_law_1320 (lv_at hl 0 rfl) ?_
  refine lv_iconst (v := nI 1) hx hb d_L_law_1322 (by decide) ?_
  refine lv_iadd hx hb d_L_law_1323 ?_
  refine gx_i (y := nI (i + 1)) (nI_add _ _) ?_
  refine gl_ld (j := i + 1) hx hb hX hbl hbA hS (by omega) hL d_L_law_1324 ?_
  refine lv_aload_n hx hb d_L_law_1325 rfl (lv_at hl 1 rfl) ?_
  refine gw_ci (gh_rS (n := 3) (As := [.ref (A 0), .int (xs (i + 1)), .ref o]) (rest := []) hF hT (hc_sample (q0 := 0) (bo := 64) (o := o) (f := f) hx0.1 ho (fun r w h => by obtain ⟨_, k, _, _, nu2, _, _, h4⟩ := h; exact h4.1 64 (Or.inr (by omega))) (fun Z w h => h.1) (c_X_sample hlt hx0 hN1 hN5 hEm)) wm_3_23 wm_3_24 wm_1_0 wm_3_25 (by decide +kernel) ⟨(Nat.le_of_ble_eq_true rfl), (Nat.le_of_ble_eq_true rfl)⟩ rfl rfl (gh_pre hK hN hP hD hS hB hA hE hC) rfl hl.1 rfl (Nat.le_of_ble_eq_true rfl) d_L_law_1326 ⟨(by show _ ≤ 601024; omega), (by show _ ≤ 7292999; omega)⟩) hD hS hA (fun r w1 H locs hw hP hD hS => ?_)
  obtain ⟨o', c1, hM1, hQ⟩ := lo_sample hN1 hN5 hX0 hw
  have hF1 : lm_F N R EM (fun k => iv_mat N (B k)) := iv_F hN5 hA0
  refine lv_istore (lv' := [(5, .int r), (4, .int (nI i)), (3, .ref o), (2, .ref (A2 0)), (1, .ref (A 0)), (0, .ref b)]) hx hb d_L_law_1329 hl (by decide) rfl (fun ls hl => ?_)
  refine lv_aload_n hx hb d_L_law_1331 rfl (lv_at hl 3 rfl) ?_
  refine lv_aload_n hx hb d_L_law_1332 rfl (lv_at hl 5 rfl) ?_
  refine lv_iload hx hb d_L_law_1333 (lv_at hl 1 rfl) ?_
  refine lv_iconst (v := nI 1) hx hb d_L_law_1335 (by decide) ?_
  refine lv_iadd hx hb d_L_law_1336 ?_
  refine gx_i (y := nI (i + 1)) (nI_add _ _) ?_
  refine gl_ld (j := i + 1) hx hb hX hbl hbA hS (by omega) hL d_L_law_1337 ?_
  refine gw_ci (gc_L_162 (As := [.int (xs (i + 1))]) (rest := []) hF hT (c_M_sample hM1 hN1 hN5 hF1 c1) ⟨(Nat.le_of_ble_eq_true rfl), (Nat.le_of_ble_eq_true rfl)⟩ rfl rfl hK hN hP hD hM1.obj rfl hl.1 rfl (Nat.le_of_ble_eq_true rfl) d_L_law_1338 ⟨(by show _ ≤ 601024; omega), (by show _ ≤ 7292999; omega)⟩) hD hS hA (fun r' w2 H locs hw2 hP hD hS => ?_)
  obtain ⟨⟨⟨nm, hobj⟩, hLI⟩, f2, ho2, hv⟩ := hQ r' w2 hw2
  refine lv_istore (lv' := [(6, .int r'), (5, .int r), (4, .int (nI i)), (3, .ref o), (2, .ref (A2 0)), (1, .ref (A 0)), (0, .ref b)]) hx hb d_L_law_1341 hl (by decide) rfl (fun ls hl => ?_)
  refine lv_aload_n hx hb d_L_law_1343 rfl (lv_at hl 4 rfl) ?_
  refine gw_ci0 (gc_L_106 (As := []) (rest := []) hF hT (c_M_thrown hobj hN1 hN5) ⟨(Nat.le_of_ble_eq_true rfl), (Nat.le_of_ble_eq_true rfl)⟩ rfl rfl hK hN hP hD hobj rfl hl.1 rfl (Nat.le_of_ble_eq_true rfl) d_L_law_1344 ⟨(by show _ ≤ 601024; omega), (by show _ ≤ 7292999; omega)⟩) hD hS hA (fun r3 H locs e3 hP hD hS => ?_)
  subst e3
  refine lv_iload hx hb d_L_law_1347 (lv_at hl 1 rfl) ?_
  refine lv_icmp_eq (tgt := 1354) hx hb d_L_law_1349 (by decide) (fun c => ?_) (fun c => absurd rfl c)
  refine lv_iload hx hb d_L_law_1354 (lv_at hl 1 rfl) ?_
  refine lv_if_ne (tgt := 1378) hx hb d_L_law_1356 (by decide) (fun c => ?_) (fun c => ?_)
  · refine lv_goto (tgt := 1727) hx hb d_L_law_1378 (by decide) ?_
    refine W.widen (k := cells + 5) (n := slots + 30) (by omega) (by omega) ?_
    exact kk _ _ _ _ hLI hP hD hS (lv_sub hl [2, 3, 4, 5, 6] rfl)
  · refine lv_aload_n hx hb d_L_law_1359 rfl (lv_at hl 3 rfl) ?_
    refine lv_iconst (v := nI 0) hx hb d_L_law_1360 (by decide) ?_
    refine g_lald (t0 := 0) (k := 0) hx hb hK hP ho2 rfl (by omega) (by omega) d_L_law_1361 ?_
    refine lv_iload hx hb d_L_law_1362 (lv_at hl 0 rfl) ?_
    refine lv_if_eq (tgt := 1371) hx hb d_L_law_1364 (by decide) (fun c9 => ?_) (fun c9 => ?_)
    · refine lv_lconst (v := 0) hx hb d_L_law_1371 rfl ?_
      refine gx_leq (tgt := 1378) hx hb d_L_law_1372 d_L_law_1373 (by decide) (fun c8 => ?_) (fun c8 => absurd ((hv (c.trans nI_0.symm)).trans (if_pos c9)) c8)
      refine lv_goto (tgt := 1727) hx hb d_L_law_1378 (by decide) ?_
      refine W.widen (k := cells + 5) (n := slots + 30) (by omega) (by omega) ?_
      exact kk _ _ _ _ hLI hP hD hS (lv_sub hl [2, 3, 4, 5, 6] rfl)
    · refine lv_lconst (v := 1) hx hb d_L_law_1367 rfl ?_
      refine lv_goto (tgt := 1372) hx hb d_L_law_1368 (by decide) ?_
      refine gx_leq (tgt := 1378) hx hb d_L_law_1372 d_L_law_1373 (by decide) (fun c8 => ?_) (fun c8 => absurd ((hv (c.trans nI_0.symm)).trans (if_neg c9)) c8)
      refine lv_goto (tgt := 1727) hx hb d_L_law_1378 (by decide) ?_
      refine W.widen (k := cells + 5) (n := slots + 30) (by omega) (by omega) ?_
      exact kk _ _ _ _ hLI hP hD hS (lv_sub hl [2, 3, 4, 5, 6] rfl)

set_option maxHeartbeats 4000000 in
set_option maxRecDepth 100000 in
theorem lc_needed {p : Program} {l : Launch} {e : Env} {s : State} {m : MethodId} {below : List Frame} {meth : Method} {c : Code} {b L : Nat} {xs : Nat → Int32} {D : va_G} {cJ cI cZ cS : ClassId} {A A2 : Nat → Nat} {o N : Nat} {sf : Nat → Option Nat} {i : Nat} {w : va_W} {H : Heap} {locs : List Loc} {cells slots : Nat} {ls : Array Slot} {Q : State → Prop} (hlt : l.stackTraces = false) (hF : CallFix p m c code 8 s #[Value.ref b] lw_tbl R_L) (hK : va_K D classes (gT cJ cI cZ cS) s) (hN : gN s) (hE : gE s.heap.size s s.heap) (hC : gC s) (hX : va_X b L xs s s.heap) (hbl : b < s.heap.size) (hi : i + 6 ≤ L) (hL : L ≤ 3073) (hN1 : 1 ≤ N) (hN5 : N ≤ 5) (hI : LI cJ cI cZ cS A A2 o N sf w) (hP : va_P D classes w H) (hD : va_D (va_A [] s.heap.size) w) (hS : va_S (va_A [] s.heap.size) s.heap H locs) (hc : cells + 5 ≤ 601024) (hs : slots + 30 ≤ 7292999) (hl : lv_has ls 8 [(4, .int (nI i)), (3, .ref o), (2, .ref (A2 0)), (1, .ref (A 0)), (0, .ref b)]) (kk : ∀ (w : va_W) (H : Heap) (locs : List Loc) (ls : Array Slot), LI cJ cI cZ cS A A2 o N sf w → va_P D classes w H → va_D (va_A [] s.heap.size) w → va_S (va_A [] s.heap.size) s.heap H locs → lv_has ls 8 [(4, .int (nI i)), (3, .ref o), (2, .ref (A2 0)), (1, .ref (A 0)), (0, .ref b)] → W p l e room_1 s m #[Value.ref b] below meth c H locs (cells + 5) (slots + 30) Q (F0 m 1727 ls [])) : W p l e room_1 s m #[Value.ref b] below meth c H locs cells slots Q (F0 m 1381 ls []) := by
  have hx := hF.1
  have hb := hF.2.1
  have hown := hF.2.2.2.1
  have hts := hF.2.2.2.2
  have hT : ∀ w ∈ wG, w ∈ lw_tbl := fun w h => (List.mem_filter.mp h).1
  have hA : ∀ q, s.heap.size ≤ q → va_A [] s.heap.size q := fun q h => Or.inr h
  have hB : ∀ q, va_A [] s.heap.size q → s.heap.size ≤ q := fun q h => by
    rcases h with ⟨k, e, h⟩ | h
    · exact absurd h (by simp)
    · exact h
  have hbA : ¬ va_A [] s.heap.size b := fun h => Nat.not_le.mpr hbl (hB b h)
  obtain ⟨K, B, E, Km, Bm, Em, Lf, Tr, nu, ne, m1, th, R, EM, Pt, nA, nB, nC, hX0⟩ := hI
  have hx0 := hX0.1
  obtain ⟨f, ho⟩ := hX0.2.2.1
  have hA0 := hX0.2.2.2.1
  have hEm := hX0.2.2.2.2.2.2.1
  have hm1 := hX0.2.2.2.2.2.2.2
  refine lv_aload_n hx hb d_L_law_1381 rfl (lv_at hl 3 rfl) ?_
  refine lv_aload_n hx hb d_L_law_1382 rfl (lv_at hl 4 rfl) ?_
  refine lv_iload hx hb d_L_law_1383 (lv_at hl 0 rfl) ?_
  refine lv_iconst (v := nI 1) hx hb d_L_law_1385 (by decide) ?_
  refine lv_iadd hx hb d_L_law_1386 ?_
  refine gx_i (y := nI (i + 1)) (nI_add _ _) ?_
  refine gl_ld (j := i + 1) hx hb hX hbl hbA hS (by omega) hL d_L_law_1387 ?_
  refine lv_aload_n hx hb d_L_law_1388 rfl (lv_at hl 1 rfl) ?_
  refine gw_ci (gh_rS (n := 3) (As := [.ref (A 0), .int (xs (i + 1)), .ref o]) (rest := []) hF hT (hc_needed (q0 := 0) (bo := 64) (o := o) (f := f) hx0.1 ho (fun r w h => by obtain ⟨_, k, _, _, _, _, _, _, _, _, _, _, h4⟩ := h; exact h4.1 64 (Or.inr (by omega))) (fun Z w h => h.1) (c_X_needed hlt hx0 hN1 hN5)) wm_3_42 wm_3_43 wm_1_0 wm_3_44 (by decide +kernel) ⟨(Nat.le_of_ble_eq_true rfl), (Nat.le_of_ble_eq_true rfl)⟩ rfl rfl (gh_pre hK hN hP hD hS hB hA hE hC) rfl hl.1 rfl (Nat.le_of_ble_eq_true rfl) d_L_law_1389 ⟨(by show _ ≤ 601024; omega), (by show _ ≤ 7292999; omega)⟩) hD hS hA (fun r w1 H locs hw hP hD hS => ?_)
  obtain ⟨o', c1, hM1, hQ⟩ := lo_needed hN1 hN5 hX0 hw
  have hF1 : lm_F N R EM (fun k => iv_mat N (B k)) := iv_F hN5 hA0
  refine lv_istore (lv' := [(5, .int r), (4, .int (nI i)), (3, .ref o), (2, .ref (A2 0)), (1, .ref (A 0)), (0, .ref b)]) hx hb d_L_law_1392 hl (by decide) rfl (fun ls hl => ?_)
  refine lv_aload_n hx hb d_L_law_1394 rfl (lv_at hl 3 rfl) ?_
  refine lv_aload_n hx hb d_L_law_1395 rfl (lv_at hl 5 rfl) ?_
  refine lv_iload hx hb d_L_law_1396 (lv_at hl 1 rfl) ?_
  refine lv_iconst (v := nI 1) hx hb d_L_law_1398 (by decide) ?_
  refine lv_iadd hx hb d_L_law_1399 ?_
  refine gx_i (y := nI (i + 1)) (nI_add _ _) ?_
  refine gl_ld (j := i + 1) hx hb hX hbl hbA hS (by omega) hL d_L_law_1400 ?_
  refine gw_ci (gc_L_165 (As := [.int (xs (i + 1))]) (rest := []) hF hT (c_M_needed hM1 hN1 hN5 hF1 c1) ⟨(Nat.le_of_ble_eq_true rfl), (Nat.le_of_ble_eq_true rfl)⟩ rfl rfl hK hN hP hD hM1.obj rfl hl.1 rfl (Nat.le_of_ble_eq_true rfl) d_L_law_1401 ⟨(by show _ ≤ 601024; omega), (by show _ ≤ 7292999; omega)⟩) hD hS hA (fun r' w2 H locs hw2 hP hD hS => ?_)
  obtain ⟨⟨⟨nm, hobj⟩, hLI⟩, f2, ho2, hv⟩ := hQ r' w2 hw2
  refine lv_istore (lv' := [(6, .int r'), (5, .int r), (4, .int (nI i)), (3, .ref o), (2, .ref (A2 0)), (1, .ref (A 0)), (0, .ref b)]) hx hb d_L_law_1404 hl (by decide) rfl (fun ls hl => ?_)
  refine lv_aload_n hx hb d_L_law_1406 rfl (lv_at hl 4 rfl) ?_
  refine gw_ci0 (gc_L_106 (As := []) (rest := []) hF hT (c_M_thrown hobj hN1 hN5) ⟨(Nat.le_of_ble_eq_true rfl), (Nat.le_of_ble_eq_true rfl)⟩ rfl rfl hK hN hP hD hobj rfl hl.1 rfl (Nat.le_of_ble_eq_true rfl) d_L_law_1407 ⟨(by show _ ≤ 601024; omega), (by show _ ≤ 7292999; omega)⟩) hD hS hA (fun r3 H locs e3 hP hD hS => ?_)
  subst e3
  refine lv_iload hx hb d_L_law_1410 (lv_at hl 1 rfl) ?_
  refine lv_icmp_eq (tgt := 1417) hx hb d_L_law_1412 (by decide) (fun c => ?_) (fun c => absurd rfl c)
  refine lv_iload hx hb d_L_law_1417 (lv_at hl 1 rfl) ?_
  refine lv_if_ne (tgt := 1434) hx hb d_L_law_1419 (by decide) (fun c => ?_) (fun c => ?_)
  · refine lv_goto (tgt := 1727) hx hb d_L_law_1434 (by decide) ?_
    refine W.widen (k := cells + 5) (n := slots + 30) (by omega) (by omega) ?_
    exact kk _ _ _ _ hLI hP hD hS (lv_sub hl [2, 3, 4, 5, 6] rfl)
  · refine lv_aload_n hx hb d_L_law_1422 rfl (lv_at hl 3 rfl) ?_
    refine lv_iconst (v := nI 0) hx hb d_L_law_1423 (by decide) ?_
    refine g_lald (t0 := 0) (k := 0) hx hb hK hP ho2 rfl (by omega) (by omega) d_L_law_1424 ?_
    refine lv_iload hx hb d_L_law_1425 (lv_at hl 0 rfl) ?_
    refine lv_i2l (v := (r').toInt64) hx hb d_L_law_1427 rfl ?_
    refine gx_leq (tgt := 1434) hx hb d_L_law_1428 d_L_law_1429 (by decide) (fun c8 => ?_) (fun c8 => absurd (hv (c.trans nI_0.symm)) c8)
    refine lv_goto (tgt := 1727) hx hb d_L_law_1434 (by decide) ?_
    refine W.widen (k := cells + 5) (n := slots + 30) (by omega) (by omega) ?_
    exact kk _ _ _ _ hLI hP hD hS (lv_sub hl [2, 3, 4, 5, 6] rfl)

set_option maxHeartbeats 4000000 in
set_option maxRecDepth 100000 in
theorem lc_needs {p : Program} {l : Launch} {e : Env} {s : State} {m : MethodId} {below : List Frame} {meth : Method} {c : Code} {b L : Nat} {xs : Nat → Int32} {D : va_G} {cJ cI cZ cS : ClassId} {A A2 : Nat → Nat} {o N : Nat} {sf : Nat → Option Nat} {i : Nat} {w : va_W} {H : Heap} {locs : List Loc} {cells slots : Nat} {ls : Array Slot} {Q : State → Prop} (hlt : l.stackTraces = false) (hF : CallFix p m c code 8 s #[Value.ref b] lw_tbl R_L) (hK : va_K D classes (gT cJ cI cZ cS) s) (hN : gN s) (hE : gE s.heap.size s s.heap) (hC : gC s) (hX : va_X b L xs s s.heap) (hbl : b < s.heap.size) (hi : i + 6 ≤ L) (hL : L ≤ 3073) (hN1 : 1 ≤ N) (hN5 : N ≤ 5) (hI : LI cJ cI cZ cS A A2 o N sf w) (hP : va_P D classes w H) (hD : va_D (va_A [] s.heap.size) w) (hS : va_S (va_A [] s.heap.size) s.heap H locs) (hc : cells + 5 ≤ 601024) (hs : slots + 30 ≤ 7292999) (hl : lv_has ls 8 [(4, .int (nI i)), (3, .ref o), (2, .ref (A2 0)), (1, .ref (A 0)), (0, .ref b)]) (kk : ∀ (w : va_W) (H : Heap) (locs : List Loc) (ls : Array Slot), LI cJ cI cZ cS A A2 o N sf w → va_P D classes w H → va_D (va_A [] s.heap.size) w → va_S (va_A [] s.heap.size) s.heap H locs → lv_has ls 8 [(4, .int (nI i)), (3, .ref o), (2, .ref (A2 0)), (1, .ref (A 0)), (0, .ref b)] → W p l e room_1 s m #[Value.ref b] below meth c H locs (cells + 5) (slots + 30) Q (F0 m 1727 ls [])) : W p l e room_1 s m #[Value.ref b] below meth c H locs cells slots Q (F0 m 1437 ls []) := by
  have hx := hF.1
  have hb := hF.2.1
  have hown := hF.2.2.2.1
  have hts := hF.2.2.2.2
  have hT : ∀ w ∈ wG, w ∈ lw_tbl := fun w h => (List.mem_filter.mp h).1
  have hA : ∀ q, s.heap.size ≤ q → va_A [] s.heap.size q := fun q h => Or.inr h
  have hB : ∀ q, va_A [] s.heap.size q → s.heap.size ≤ q := fun q h => by
    rcases h with ⟨k, e, h⟩ | h
    · exact absurd h (by simp)
    · exact h
  have hbA : ¬ va_A [] s.heap.size b := fun h => Nat.not_le.mpr hbl (hB b h)
  obtain ⟨K, B, E, Km, Bm, Em, Lf, Tr, nu, ne, m1, th, R, EM, Pt, nA, nB, nC, hX0⟩ := hI
  have hx0 := hX0.1
  obtain ⟨f, ho⟩ := hX0.2.2.1
  have hA0 := hX0.2.2.2.1
  have hEm := hX0.2.2.2.2.2.2.1
  have hm1 := hX0.2.2.2.2.2.2.2
  refine lv_aload_n hx hb d_L_law_1437 rfl (lv_at hl 3 rfl) ?_
  refine lv_aload_n hx hb d_L_law_1438 rfl (lv_at hl 4 rfl) ?_
  refine lv_iload hx hb d_L_law_1439 (lv_at hl 0 rfl) ?_
  refine lv_iconst (v := nI 1) hx hb d_L_law_1441 (by decide) ?_
  refine lv_iadd hx hb d_L_law_1442 ?_
  refine gx_i (y := nI (i + 1)) (nI_add _ _) ?_
  refine gl_ld (j := i + 1) hx hb hX hbl hbA hS (by omega) hL d_L_law_1443 ?_
  refine lv_aload_n hx hb d_L_law_1444 rfl (lv_at hl 4 rfl) ?_
  refine lv_iload hx hb d_L_law_1445 (lv_at hl 0 rfl) ?_
  refine lv_iconst (v := nI 2) hx hb d_L_law_1447 (by decide) ?_
  refine lv_iadd hx hb d_L_law_1448 ?_
  refine gx_i (y := nI (i + 2)) (nI_add _ _) ?_
  refine gl_ld (j := i + 2) hx hb hX hbl hbA hS (by omega) hL d_L_law_1449 ?_
  refine lv_aload_n hx hb d_L_law_1450 rfl (lv_at hl 1 rfl) ?_
  refine gw_ci (gh_rS (n := 4) (As := [.ref (A 0), .int (xs (i + 1)), .int (xs (i + 2)), .ref o]) (rest := []) hF hT (hc_needs (q0 := 0) (bo := 64) (o := o) (f := f) hx0.1 ho (fun r w h => by rw [h.2]) (fun Z w h => h.1) (c_X_needs hlt hx0 hN1 hN5 hm1)) wm_3_77 wm_3_78 wm_1_0 wm_3_79 (by decide +kernel) ⟨(Nat.le_of_ble_eq_true rfl), (Nat.le_of_ble_eq_true rfl)⟩ rfl rfl (gh_pre hK hN hP hD hS hB hA hE hC) rfl hl.1 rfl (Nat.le_of_ble_eq_true rfl) d_L_law_1451 ⟨(by show _ ≤ 601024; omega), (by show _ ≤ 7292999; omega)⟩) hD hS hA (fun r w1 H locs hw hP hD hS => ?_)
  obtain ⟨hM1, hQ⟩ := lo_needs hN1 hN5 hX0 hw
  have hF1 : lm_F N R EM (fun k => iv_mat N (B k)) := iv_F hN5 hA0
  refine lv_istore (lv' := [(5, .int r), (4, .int (nI i)), (3, .ref o), (2, .ref (A2 0)), (1, .ref (A 0)), (0, .ref b)]) hx hb d_L_law_1454 hl (by decide) rfl (fun ls hl => ?_)
  refine lv_aload_n hx hb d_L_law_1456 rfl (lv_at hl 3 rfl) ?_
  refine lv_aload_n hx hb d_L_law_1457 rfl (lv_at hl 5 rfl) ?_
  refine lv_iload hx hb d_L_law_1458 (lv_at hl 1 rfl) ?_
  refine lv_iconst (v := nI 1) hx hb d_L_law_1460 (by decide) ?_
  refine lv_iadd hx hb d_L_law_1461 ?_
  refine gx_i (y := nI (i + 1)) (nI_add _ _) ?_
  refine gl_ld (j := i + 1) hx hb hX hbl hbA hS (by omega) hL d_L_law_1462 ?_
  refine lv_aload_n hx hb d_L_law_1463 rfl (lv_at hl 5 rfl) ?_
  refine lv_iload hx hb d_L_law_1464 (lv_at hl 1 rfl) ?_
  refine lv_iconst (v := nI 2) hx hb d_L_law_1466 (by decide) ?_
  refine lv_iadd hx hb d_L_law_1467 ?_
  refine gx_i (y := nI (i + 2)) (nI_add _ _) ?_
  refine gl_ld (j := i + 2) hx hb hX hbl hbA hS (by omega) hL d_L_law_1468 ?_
  refine gw_cl (gc_L_168 (As := [.int (xs (i + 1)), .int (xs (i + 2))]) (rest := []) hF hT (c_M_needs hM1 hN1 hN5 (by have := lr_nn hN5; omega)) ⟨(Nat.le_of_ble_eq_true rfl), (Nat.le_of_ble_eq_true rfl)⟩ rfl rfl hK hN hP hD hM1.obj rfl hl.1 rfl (Nat.le_of_ble_eq_true rfl) d_L_law_1469 ⟨(by show _ ≤ 601024; omega), (by show _ ≤ 7292999; omega)⟩) hD hS hA (fun r' w2 H locs hw2 hP hD hS => ?_)
  obtain ⟨⟨⟨nm, hobj⟩, hLI⟩, f2, ho2, hv⟩ := hQ r' w2 hw2
  refine lv_lstore (lv' := [(6, .long r'), (5, .int r), (4, .int (nI i)), (3, .ref o), (2, .ref (A2 0)), (1, .ref (A 0)), (0, .ref b)]) hx hb d_L_law_1472 hl (by decide) rfl (fun ls hl => ?_)
  refine lv_aload_n hx hb d_L_law_1474 rfl (lv_at hl 4 rfl) ?_
  refine gw_ci0 (gc_L_106 (As := []) (rest := []) hF hT (c_M_thrown hobj hN1 hN5) ⟨(Nat.le_of_ble_eq_true rfl), (Nat.le_of_ble_eq_true rfl)⟩ rfl rfl hK hN hP hD hobj rfl hl.1 rfl (Nat.le_of_ble_eq_true rfl) d_L_law_1475 ⟨(by show _ ≤ 601024; omega), (by show _ ≤ 7292999; omega)⟩) hD hS hA (fun r3 H locs e3 hP hD hS => ?_)
  subst e3
  refine lv_iload hx hb d_L_law_1478 (lv_at hl 1 rfl) ?_
  refine lv_icmp_eq (tgt := 1485) hx hb d_L_law_1480 (by decide) (fun c => ?_) (fun c => absurd rfl c)
  refine lv_iload hx hb d_L_law_1485 (lv_at hl 1 rfl) ?_
  refine lv_if_ne (tgt := 1501) hx hb d_L_law_1487 (by decide) (fun c => ?_) (fun c => ?_)
  · refine lv_goto (tgt := 1727) hx hb d_L_law_1501 (by decide) ?_
    refine W.widen (k := cells + 5) (n := slots + 30) (by omega) (by omega) ?_
    exact kk _ _ _ _ hLI hP hD hS (lv_sub hl [2, 3, 4, 5, 6] rfl)
  · refine lv_aload_n hx hb d_L_law_1490 rfl (lv_at hl 3 rfl) ?_
    refine lv_iconst (v := nI 0) hx hb d_L_law_1491 (by decide) ?_
    refine g_lald (t0 := 0) (k := 0) hx hb hK hP ho2 rfl (by omega) (by omega) d_L_law_1492 ?_
    refine lv_lload hx hb d_L_law_1493 (lv_at hl 0 rfl) ?_
    refine gx_leq (tgt := 1501) hx hb d_L_law_1495 d_L_law_1496 (by decide) (fun c8 => ?_) (fun c8 => absurd (hv (c.trans nI_0.symm)) c8)
    refine lv_goto (tgt := 1727) hx hb d_L_law_1501 (by decide) ?_
    refine W.widen (k := cells + 5) (n := slots + 30) (by omega) (by omega) ?_
    exact kk _ _ _ _ hLI hP hD hS (lv_sub hl [2, 3, 4, 5, 6] rfl)

set_option maxHeartbeats 4000000 in
set_option maxRecDepth 100000 in
theorem lc_fits {p : Program} {l : Launch} {e : Env} {s : State} {m : MethodId} {below : List Frame} {meth : Method} {c : Code} {b L : Nat} {xs : Nat → Int32} {D : va_G} {cJ cI cZ cS : ClassId} {A A2 : Nat → Nat} {o N : Nat} {sf : Nat → Option Nat} {i : Nat} {w : va_W} {H : Heap} {locs : List Loc} {cells slots : Nat} {ls : Array Slot} {Q : State → Prop} (hlt : l.stackTraces = false) (hF : CallFix p m c code 8 s #[Value.ref b] lw_tbl R_L) (hK : va_K D classes (gT cJ cI cZ cS) s) (hN : gN s) (hE : gE s.heap.size s s.heap) (hC : gC s) (hX : va_X b L xs s s.heap) (hbl : b < s.heap.size) (hi : i + 6 ≤ L) (hL : L ≤ 3073) (hN1 : 1 ≤ N) (hN5 : N ≤ 5) (hI : LI cJ cI cZ cS A A2 o N sf w) (hP : va_P D classes w H) (hD : va_D (va_A [] s.heap.size) w) (hS : va_S (va_A [] s.heap.size) s.heap H locs) (hc : cells + 5 ≤ 601024) (hs : slots + 30 ≤ 7292999) (hl : lv_has ls 8 [(4, .int (nI i)), (3, .ref o), (2, .ref (A2 0)), (1, .ref (A 0)), (0, .ref b)]) (kk : ∀ (w : va_W) (H : Heap) (locs : List Loc) (ls : Array Slot), LI cJ cI cZ cS A A2 o N sf w → va_P D classes w H → va_D (va_A [] s.heap.size) w → va_S (va_A [] s.heap.size) s.heap H locs → lv_has ls 8 [(4, .int (nI i)), (3, .ref o), (2, .ref (A2 0)), (1, .ref (A 0)), (0, .ref b)] → W p l e room_1 s m #[Value.ref b] below meth c H locs (cells + 5) (slots + 30) Q (F0 m 1727 ls [])) : W p l e room_1 s m #[Value.ref b] below meth c H locs cells slots Q (F0 m 1504 ls []) := by
  have hx := hF.1
  have hb := hF.2.1
  have hown := hF.2.2.2.1
  have hts := hF.2.2.2.2
  have hT : ∀ w ∈ wG, w ∈ lw_tbl := fun w h => (List.mem_filter.mp h).1
  have hA : ∀ q, s.heap.size ≤ q → va_A [] s.heap.size q := fun q h => Or.inr h
  have hB : ∀ q, va_A [] s.heap.size q → s.heap.size ≤ q := fun q h => by
    rcases h with ⟨k, e, h⟩ | h
    · exact absurd h (by simp)
    · exact h
  have hbA : ¬ va_A [] s.heap.size b := fun h => Nat.not_le.mpr hbl (hB b h)
  obtain ⟨K, B, E, Km, Bm, Em, Lf, Tr, nu, ne, m1, th, R, EM, Pt, nA, nB, nC, hX0⟩ := hI
  have hx0 := hX0.1
  obtain ⟨f, ho⟩ := hX0.2.2.1
  have hA0 := hX0.2.2.2.1
  have hEm := hX0.2.2.2.2.2.2.1
  have hm1 := hX0.2.2.2.2.2.2.2
  refine lv_aload_n hx hb d_L_law_1504 rfl (lv_at hl 3 rfl) ?_
  refine lv_aload_n hx hb d_L_law_1505 rfl (lv_at hl 4 rfl) ?_
  refine lv_iload hx hb d_L_law_1506 (lv_at hl 0 rfl) ?_
  refine lv_iconst (v := nI 1) hx hb d_L_law_1508 (by decide) ?_
  refine lv_iadd hx hb d_L_law_1509 ?_
  refine gx_i (y := nI (i + 1)) (nI_add _ _) ?_
  refine gl_ld (j := i + 1) hx hb hX hbl hbA hS (by omega) hL d_L_law_1510 ?_
  refine lv_aload_n hx hb d_L_law_1511 rfl (lv_at hl 4 rfl) ?_
  refine lv_iload hx hb d_L_law_1512 (lv_at hl 0 rfl) ?_
  refine lv_iconst (v := nI 2) hx hb d_L_law_1514 (by decide) ?_
  refine lv_iadd hx hb d_L_law_1515 ?_
  refine gx_i (y := nI (i + 2)) (nI_add _ _) ?_
  refine gl_ld (j := i + 2) hx hb hX hbl hbA hS (by omega) hL d_L_law_1516 ?_
  refine lv_aload_n hx hb d_L_law_1517 rfl (lv_at hl 4 rfl) ?_
  refine lv_iload hx hb d_L_law_1518 (lv_at hl 0 rfl) ?_
  refine lv_iconst (v := nI 3) hx hb d_L_law_1520 (by decide) ?_
  refine lv_iadd hx hb d_L_law_1521 ?_
  refine gx_i (y := nI (i + 3)) (nI_add _ _) ?_
  refine gl_ld (j := i + 3) hx hb hX hbl hbA hS (by omega) hL d_L_law_1522 ?_
  refine lv_aload_n hx hb d_L_law_1523 rfl (lv_at hl 1 rfl) ?_
  refine gw_ci (gh_rS (n := 5) (As := [.ref (A 0), .int (xs (i + 1)), .int (xs (i + 2)), .int (xs (i + 3)), .ref o]) (rest := []) hF hT (hc_fits (q0 := 0) (bo := 64) (o := o) (f := f) hx0.1 ho (fun r w h => by rw [h.2]) (fun Z w h => h.imp (fun q => q.1) (fun q => q.1)) (c_X_fits hlt hx0 hN1 hN5)) wm_3_85 wm_3_86 wm_1_0 wm_3_87 (by decide +kernel) ⟨(Nat.le_of_ble_eq_true rfl), (Nat.le_of_ble_eq_true rfl)⟩ rfl rfl (gh_pre hK hN hP hD hS hB hA hE hC) rfl hl.1 rfl (Nat.le_of_ble_eq_true rfl) d_L_law_1524 ⟨(by show _ ≤ 601024; omega), (by show _ ≤ 7292999; omega)⟩) hD hS hA (fun r w1 H locs hw hP hD hS => ?_)
  obtain ⟨hM1, hQ⟩ := lo_fits hN1 hN5 hX0 hw
  have hF1 : lm_F N R EM (fun k => iv_mat N (B k)) := iv_F hN5 hA0
  refine lv_istore (lv' := [(5, .int r), (4, .int (nI i)), (3, .ref o), (2, .ref (A2 0)), (1, .ref (A 0)), (0, .ref b)]) hx hb d_L_law_1527 hl (by decide) rfl (fun ls hl => ?_)
  refine lv_aload_n hx hb d_L_law_1529 rfl (lv_at hl 3 rfl) ?_
  refine lv_aload_n hx hb d_L_law_1530 rfl (lv_at hl 5 rfl) ?_
  refine lv_iload hx hb d_L_law_1531 (lv_at hl 1 rfl) ?_
  refine lv_iconst (v := nI 1) hx hb d_L_law_1533 (by decide) ?_
  refine lv_iadd hx hb d_L_law_1534 ?_
  refine gx_i (y := nI (i + 1)) (nI_add _ _) ?_
  refine gl_ld (j := i + 1) hx hb hX hbl hbA hS (by omega) hL d_L_law_1535 ?_
  refine lv_aload_n hx hb d_L_law_1536 rfl (lv_at hl 5 rfl) ?_
  refine lv_iload hx hb d_L_law_1537 (lv_at hl 1 rfl) ?_
  refine lv_iconst (v := nI 2) hx hb d_L_law_1539 (by decide) ?_
  refine lv_iadd hx hb d_L_law_1540 ?_
  refine gx_i (y := nI (i + 2)) (nI_add _ _) ?_
  refine gl_ld (j := i + 2) hx hb hX hbl hbA hS (by omega) hL d_L_law_1541 ?_
  refine lv_aload_n hx hb d_L_law_1542 rfl (lv_at hl 5 rfl) ?_
  refine lv_iload hx hb d_L_law_1543 (lv_at hl 1 rfl) ?_
  refine lv_iconst (v := nI 3) hx hb d_L_law_1545 (by decide) ?_
  refine lv_iadd hx hb d_L_law_1546 ?_
  refine gx_i (y := nI (i + 3)) (nI_add _ _) ?_
  refine gl_ld (j := i + 3) hx hb hX hbl hbA hS (by omega) hL d_L_law_1547 ?_
  refine gw_ci (gc_L_171 (As := [.int (xs (i + 1)), .int (xs (i + 2)), .int (xs (i + 3))]) (rest := []) hF hT (c_M_fits hM1 hN1 hN5 hF1) ⟨(Nat.le_of_ble_eq_true rfl), (Nat.le_of_ble_eq_true rfl)⟩ rfl rfl hK hN hP hD hM1.obj rfl hl.1 rfl (Nat.le_of_ble_eq_true rfl) d_L_law_1548 ⟨(by show _ ≤ 601024; omega), (by show _ ≤ 7292999; omega)⟩) hD hS hA (fun r' w2 H locs hw2 hP hD hS => ?_)
  obtain ⟨⟨⟨nm, hobj⟩, hLI⟩, f2, ho2, hv⟩ := hQ r' w2 hw2
  refine lv_istore (lv' := [(6, .int r'), (5, .int r), (4, .int (nI i)), (3, .ref o), (2, .ref (A2 0)), (1, .ref (A 0)), (0, .ref b)]) hx hb d_L_law_1551 hl (by decide) rfl (fun ls hl => ?_)
  refine lv_aload_n hx hb d_L_law_1553 rfl (lv_at hl 4 rfl) ?_
  refine gw_ci0 (gc_L_106 (As := []) (rest := []) hF hT (c_M_thrown hobj hN1 hN5) ⟨(Nat.le_of_ble_eq_true rfl), (Nat.le_of_ble_eq_true rfl)⟩ rfl rfl hK hN hP hD hobj rfl hl.1 rfl (Nat.le_of_ble_eq_true rfl) d_L_law_1554 ⟨(by show _ ≤ 601024; omega), (by show _ ≤ 7292999; omega)⟩) hD hS hA (fun r3 H locs e3 hP hD hS => ?_)
  subst e3
  refine lv_iload hx hb d_L_law_1557 (lv_at hl 1 rfl) ?_
  refine lv_icmp_eq (tgt := 1564) hx hb d_L_law_1559 (by decide) (fun c => ?_) (fun c => absurd rfl c)
  refine lv_iload hx hb d_L_law_1564 (lv_at hl 1 rfl) ?_
  refine lv_if_ne (tgt := 1588) hx hb d_L_law_1566 (by decide) (fun c => ?_) (fun c => ?_)
  · refine lv_goto (tgt := 1727) hx hb d_L_law_1588 (by decide) ?_
    refine W.widen (k := cells + 5) (n := slots + 30) (by omega) (by omega) ?_
    exact kk _ _ _ _ hLI hP hD hS (lv_sub hl [2, 3, 4, 5, 6] rfl)
  · refine lv_aload_n hx hb d_L_law_1569 rfl (lv_at hl 3 rfl) ?_
    refine lv_iconst (v := nI 0) hx hb d_L_law_1570 (by decide) ?_
    refine g_lald (t0 := 0) (k := 0) hx hb hK hP ho2 rfl (by omega) (by omega) d_L_law_1571 ?_
    refine lv_iload hx hb d_L_law_1572 (lv_at hl 0 rfl) ?_
    refine lv_if_eq (tgt := 1581) hx hb d_L_law_1574 (by decide) (fun c9 => ?_) (fun c9 => ?_)
    · refine lv_lconst (v := 0) hx hb d_L_law_1581 rfl ?_
      refine gx_leq (tgt := 1588) hx hb d_L_law_1582 d_L_law_1583 (by decide) (fun c8 => ?_) (fun c8 => absurd ((hv (c.trans nI_0.symm)).trans (if_pos c9)) c8)
      refine lv_goto (tgt := 1727) hx hb d_L_law_1588 (by decide) ?_
      refine W.widen (k := cells + 5) (n := slots + 30) (by omega) (by omega) ?_
      exact kk _ _ _ _ hLI hP hD hS (lv_sub hl [2, 3, 4, 5, 6] rfl)
    · refine lv_lconst (v := 1) hx hb d_L_law_1577 rfl ?_
      refine lv_goto (tgt := 1582) hx hb d_L_law_1578 (by decide) ?_
      refine gx_leq (tgt := 1588) hx hb d_L_law_1582 d_L_law_1583 (by decide) (fun c8 => ?_) (fun c8 => absurd ((hv (c.trans nI_0.symm)).trans (if_neg c9)) c8)
      refine lv_goto (tgt := 1727) hx hb d_L_law_1588 (by decide) ?_
      refine W.widen (k := cells + 5) (n := slots + 30) (by omega) (by omega) ?_
      exact kk _ _ _ _ hLI hP hD hS (lv_sub hl [2, 3, 4, 5, 6] rfl)

set_option maxHeartbeats 4000000 in
set_option maxRecDepth 100000 in
theorem lc_array {p : Program} {l : Launch} {e : Env} {s : State} {m : MethodId} {below : List Frame} {meth : Method} {c : Code} {b L : Nat} {xs : Nat → Int32} {D : va_G} {cJ cI cZ cS : ClassId} {A A2 : Nat → Nat} {o N : Nat} {sf : Nat → Option Nat} {i : Nat} {w : va_W} {H : Heap} {locs : List Loc} {cells slots : Nat} {ls : Array Slot} {Q : State → Prop} (hlt : l.stackTraces = false) (hF : CallFix p m c code 8 s #[Value.ref b] lw_tbl R_L) (hK : va_K D classes (gT cJ cI cZ cS) s) (hN : gN s) (hE : gE s.heap.size s s.heap) (hC : gC s) (hX : va_X b L xs s s.heap) (hbl : b < s.heap.size) (hi : i + 6 ≤ L) (hL : L ≤ 3073) (hN1 : 1 ≤ N) (hN5 : N ≤ 5) (hI : LI cJ cI cZ cS A A2 o N sf w) (hP : va_P D classes w H) (hD : va_D (va_A [] s.heap.size) w) (hS : va_S (va_A [] s.heap.size) s.heap H locs) (hc : cells + 5 ≤ 601024) (hs : slots + 30 ≤ 7292999) (hl : lv_has ls 8 [(4, .int (nI i)), (3, .ref o), (2, .ref (A2 0)), (1, .ref (A 0)), (0, .ref b)]) (kk : ∀ (w : va_W) (H : Heap) (locs : List Loc) (ls : Array Slot), LI cJ cI cZ cS A A2 o N sf w → va_P D classes w H → va_D (va_A [] s.heap.size) w → va_S (va_A [] s.heap.size) s.heap H locs → lv_has ls 8 [(4, .int (nI i)), (3, .ref o), (2, .ref (A2 0)), (1, .ref (A 0)), (0, .ref b)] → W p l e room_1 s m #[Value.ref b] below meth c H locs (cells + 5) (slots + 30) Q (F0 m 1727 ls [])) : W p l e room_1 s m #[Value.ref b] below meth c H locs cells slots Q (F0 m 1591 ls []) := by
  have hx := hF.1
  have hb := hF.2.1
  have hown := hF.2.2.2.1
  have hts := hF.2.2.2.2
  have hT : ∀ w ∈ wG, w ∈ lw_tbl := fun w h => (List.mem_filter.mp h).1
  have hA : ∀ q, s.heap.size ≤ q → va_A [] s.heap.size q := fun q h => Or.inr h
  have hB : ∀ q, va_A [] s.heap.size q → s.heap.size ≤ q := fun q h => by
    rcases h with ⟨k, e, h⟩ | h
    · exact absurd h (by simp)
    · exact h
  have hbA : ¬ va_A [] s.heap.size b := fun h => Nat.not_le.mpr hbl (hB b h)
  obtain ⟨K, B, E, Km, Bm, Em, Lf, Tr, nu, ne, m1, th, R, EM, Pt, nA, nB, nC, hX0⟩ := hI
  have hx0 := hX0.1
  obtain ⟨f, ho⟩ := hX0.2.2.1
  have hA0 := hX0.2.2.2.1
  have hEm := hX0.2.2.2.2.2.2.1
  have hm1 := hX0.2.2.2.2.2.2.2
  refine lv_aload_n hx hb d_L_law_1591 rfl (lv_at hl 3 rfl) ?_
  refine lv_aload_n hx hb d_L_law_1592 rfl (lv_at hl 4 rfl) ?_
  refine lv_iload hx hb d_L_law_1593 (lv_at hl 0 rfl) ?_
  refine lv_iconst (v := nI 1) hx hb d_L_law_1595 (by decide) ?_
  refine lv_iadd hx hb d_L_law_1596 ?_
  refine gx_i (y := nI (i + 1)) (nI_add _ _) ?_
  refine gl_ld (j := i + 1) hx hb hX hbl hbA hS (by omega) hL d_L_law_1597 ?_
  refine lv_aload_n hx hb d_L_law_1598 rfl (lv_at hl 4 rfl) ?_
  refine lv_iload hx hb d_L_law_1599 (lv_at hl 0 rfl) ?_
  refine lv_iconst (v := nI 2) hx hb d_L_law_1601 (by decide) ?_
  refine lv_iadd hx hb d_L_law_1602 ?_
  refine gx_i (y := nI (i + 2)) (nI_add _ _) ?_
  refine gl_ld (j := i + 2) hx hb hX hbl hbA hS (by omega) hL d_L_law_1603 ?_
  refine lv_aload_n hx hb d_L_law_1604 rfl (lv_at hl 4 rfl) ?_
  refine lv_iload hx hb d_L_law_1605 (lv_at hl 0 rfl) ?_
  refine lv_iconst (v := nI 3) hx hb d_L_law_1607 (by decide) ?_
  refine lv_iadd hx hb d_L_law_1608 ?_
  refine gx_i (y := nI (i + 3)) (nI_add _ _) ?_
  refine gl_ld (j := i + 3) hx hb hX hbl hbA hS (by omega) hL d_L_law_1609 ?_
  refine lv_aload_n hx hb d_L_law_1610 rfl (lv_at hl 1 rfl) ?_
  refine gw_ci (gh_rS (n := 5) (As := [.ref (A 0), .int (xs (i + 1)), .int (xs (i + 2)), .int (xs (i + 3)), .ref o]) (rest := []) hF hT (hc_array (q0 := 0) (bo := 64) (o := o) (f := f) hx0.1 ho (fun r w h => by obtain ⟨_, k, _, _, _, _, _, h4⟩ := h; exact h4.1 64 (Or.inr (by omega))) (fun Z w h => h.1) (c_X_array hlt hx0 hN1 hN5 hEm)) wm_3_93 wm_3_94 wm_1_0 wm_3_95 (by decide +kernel) ⟨(Nat.le_of_ble_eq_true rfl), (Nat.le_of_ble_eq_true rfl)⟩ rfl rfl (gh_pre hK hN hP hD hS hB hA hE hC) rfl hl.1 rfl (Nat.le_of_ble_eq_true rfl) d_L_law_1611 ⟨(by show _ ≤ 601024; omega), (by show _ ≤ 7292999; omega)⟩) hD hS hA (fun r w1 H locs hw hP hD hS => ?_)
  obtain ⟨o', c1, hM1, hQ⟩ := lo_array hN1 hN5 hX0 hw
  have hF1 : lm_F N R EM (fun k => iv_mat N (B k)) := iv_F hN5 hA0
  refine lv_istore (lv' := [(5, .int r), (4, .int (nI i)), (3, .ref o), (2, .ref (A2 0)), (1, .ref (A 0)), (0, .ref b)]) hx hb d_L_law_1614 hl (by decide) rfl (fun ls hl => ?_)
  refine lv_aload_n hx hb d_L_law_1616 rfl (lv_at hl 3 rfl) ?_
  refine lv_aload_n hx hb d_L_law_1617 rfl (lv_at hl 5 rfl) ?_
  refine lv_iload hx hb d_L_law_1618 (lv_at hl 1 rfl) ?_
  refine lv_iconst (v := nI 1) hx hb d_L_law_1620 (by decide) ?_
  refine lv_iadd hx hb d_L_law_1621 ?_
  refine gx_i (y := nI (i + 1)) (nI_add _ _) ?_
  refine gl_ld (j := i + 1) hx hb hX hbl hbA hS (by omega) hL d_L_law_1622 ?_
  refine lv_aload_n hx hb d_L_law_1623 rfl (lv_at hl 5 rfl) ?_
  refine lv_iload hx hb d_L_law_1624 (lv_at hl 1 rfl) ?_
  refine lv_iconst (v := nI 2) hx hb d_L_law_1626 (by decide) ?_
  refine lv_iadd hx hb d_L_law_1627 ?_
  refine gx_i (y := nI (i + 2)) (nI_add _ _) ?_
  refine gl_ld (j := i + 2) hx hb hX hbl hbA hS (by omega) hL d_L_law_1628 ?_
  refine lv_aload_n hx hb d_L_law_1629 rfl (lv_at hl 5 rfl) ?_
  refine lv_iload hx hb d_L_law_1630 (lv_at hl 1 rfl) ?_
  refine lv_iconst (v := nI 3) hx hb d_L_law_1632 (by decide) ?_
  refine lv_iadd hx hb d_L_law_1633 ?_
  refine gx_i (y := nI (i + 3)) (nI_add _ _) ?_
  refine gl_ld (j := i + 3) hx hb hX hbl hbA hS (by omega) hL d_L_law_1634 ?_
  refine gw_ci (gc_L_174 (As := [.int (xs (i + 1)), .int (xs (i + 2)), .int (xs (i + 3))]) (rest := []) hF hT (c_M_array hM1 hN1 hN5 hF1 c1) ⟨(Nat.le_of_ble_eq_true rfl), (Nat.le_of_ble_eq_true rfl)⟩ rfl rfl hK hN hP hD hM1.obj rfl hl.1 rfl (Nat.le_of_ble_eq_true rfl) d_L_law_1635 ⟨(by show _ ≤ 601024; omega), (by show _ ≤ 7292999; omega)⟩) hD hS hA (fun r' w2 H locs hw2 hP hD hS => ?_)
  obtain ⟨⟨⟨nm, hobj⟩, hLI⟩, f2, ho2, hv⟩ := hQ r' w2 hw2
  refine lv_istore (lv' := [(6, .int r'), (5, .int r), (4, .int (nI i)), (3, .ref o), (2, .ref (A2 0)), (1, .ref (A 0)), (0, .ref b)]) hx hb d_L_law_1638 hl (by decide) rfl (fun ls hl => ?_)
  refine lv_aload_n hx hb d_L_law_1640 rfl (lv_at hl 4 rfl) ?_
  refine gw_ci0 (gc_L_106 (As := []) (rest := []) hF hT (c_M_thrown hobj hN1 hN5) ⟨(Nat.le_of_ble_eq_true rfl), (Nat.le_of_ble_eq_true rfl)⟩ rfl rfl hK hN hP hD hobj rfl hl.1 rfl (Nat.le_of_ble_eq_true rfl) d_L_law_1641 ⟨(by show _ ≤ 601024; omega), (by show _ ≤ 7292999; omega)⟩) hD hS hA (fun r3 H locs e3 hP hD hS => ?_)
  subst e3
  refine lv_iload hx hb d_L_law_1644 (lv_at hl 1 rfl) ?_
  refine lv_icmp_eq (tgt := 1651) hx hb d_L_law_1646 (by decide) (fun c => ?_) (fun c => absurd rfl c)
  refine lv_iload hx hb d_L_law_1651 (lv_at hl 1 rfl) ?_
  refine lv_if_ne (tgt := 1668) hx hb d_L_law_1653 (by decide) (fun c => ?_) (fun c => ?_)
  · refine lv_goto (tgt := 1727) hx hb d_L_law_1668 (by decide) ?_
    refine W.widen (k := cells + 5) (n := slots + 30) (by omega) (by omega) ?_
    exact kk _ _ _ _ hLI hP hD hS (lv_sub hl [2, 3, 4, 5, 6] rfl)
  · refine lv_aload_n hx hb d_L_law_1656 rfl (lv_at hl 3 rfl) ?_
    refine lv_iconst (v := nI 0) hx hb d_L_law_1657 (by decide) ?_
    refine g_lald (t0 := 0) (k := 0) hx hb hK hP ho2 rfl (by omega) (by omega) d_L_law_1658 ?_
    refine lv_iload hx hb d_L_law_1659 (lv_at hl 0 rfl) ?_
    refine lv_i2l (v := (r').toInt64) hx hb d_L_law_1661 rfl ?_
    refine gx_leq (tgt := 1668) hx hb d_L_law_1662 d_L_law_1663 (by decide) (fun c8 => ?_) (fun c8 => absurd (hv (c.trans nI_0.symm)) c8)
    refine lv_goto (tgt := 1727) hx hb d_L_law_1668 (by decide) ?_
    refine W.widen (k := cells + 5) (n := slots + 30) (by omega) (by omega) ?_
    exact kk _ _ _ _ hLI hP hD hS (lv_sub hl [2, 3, 4, 5, 6] rfl)

set_option maxHeartbeats 4000000 in
set_option maxRecDepth 100000 in
theorem lc_told {p : Program} {l : Launch} {e : Env} {s : State} {m : MethodId} {below : List Frame} {meth : Method} {c : Code} {b L : Nat} {xs : Nat → Int32} {D : va_G} {cJ cI cZ cS : ClassId} {A A2 : Nat → Nat} {o N : Nat} {sf : Nat → Option Nat} {i : Nat} {w : va_W} {H : Heap} {locs : List Loc} {cells slots : Nat} {ls : Array Slot} {Q : State → Prop} (hlt : l.stackTraces = false) (hF : CallFix p m c code 8 s #[Value.ref b] lw_tbl R_L) (hK : va_K D classes (gT cJ cI cZ cS) s) (hN : gN s) (hE : gE s.heap.size s s.heap) (hC : gC s) (hX : va_X b L xs s s.heap) (hbl : b < s.heap.size) (hi : i + 6 ≤ L) (hL : L ≤ 3073) (hN1 : 1 ≤ N) (hN5 : N ≤ 5) (hI : LI cJ cI cZ cS A A2 o N sf w) (hP : va_P D classes w H) (hD : va_D (va_A [] s.heap.size) w) (hS : va_S (va_A [] s.heap.size) s.heap H locs) (hc : cells + 5 ≤ 601024) (hs : slots + 30 ≤ 7292999) (hl : lv_has ls 8 [(4, .int (nI i)), (3, .ref o), (2, .ref (A2 0)), (1, .ref (A 0)), (0, .ref b)]) (kk : ∀ (w : va_W) (H : Heap) (locs : List Loc) (ls : Array Slot), LI cJ cI cZ cS A A2 o N sf w → va_P D classes w H → va_D (va_A [] s.heap.size) w → va_S (va_A [] s.heap.size) s.heap H locs → lv_has ls 8 [(4, .int (nI i)), (3, .ref o), (2, .ref (A2 0)), (1, .ref (A 0)), (0, .ref b)] → W p l e room_1 s m #[Value.ref b] below meth c H locs (cells + 5) (slots + 30) Q (F0 m 1727 ls [])) : W p l e room_1 s m #[Value.ref b] below meth c H locs cells slots Q (F0 m 1671 ls []) := by
  have hx := hF.1
  have hb := hF.2.1
  have hown := hF.2.2.2.1
  have hts := hF.2.2.2.2
  have hT : ∀ w ∈ wG, w ∈ lw_tbl := fun w h => (List.mem_filter.mp h).1
  have hA : ∀ q, s.heap.size ≤ q → va_A [] s.heap.size q := fun q h => Or.inr h
  have hB : ∀ q, va_A [] s.heap.size q → s.heap.size ≤ q := fun q h => by
    rcases h with ⟨k, e, h⟩ | h
    · exact absurd h (by simp)
    · exact h
  have hbA : ¬ va_A [] s.heap.size b := fun h => Nat.not_le.mpr hbl (hB b h)
  obtain ⟨K, B, E, Km, Bm, Em, Lf, Tr, nu, ne, m1, th, R, EM, Pt, nA, nB, nC, hX0⟩ := hI
  have hx0 := hX0.1
  obtain ⟨f, ho⟩ := hX0.2.2.1
  have hA0 := hX0.2.2.2.1
  have hEm := hX0.2.2.2.2.2.2.1
  have hm1 := hX0.2.2.2.2.2.2.2
  refine lv_aload_n hx hb d_L_law_1671 rfl (lv_at hl 3 rfl) ?_
  refine lv_aload_n hx hb d_L_law_1672 rfl (lv_at hl 4 rfl) ?_
  refine lv_iload hx hb d_L_law_1673 (lv_at hl 0 rfl) ?_
  refine lv_iconst (v := nI 1) hx hb d_L_law_1675 (by decide) ?_
  refine lv_iadd hx hb d_L_law_1676 ?_
  refine gx_i (y := nI (i + 1)) (nI_add _ _) ?_
  refine gl_ld (j := i + 1) hx hb hX hbl hbA hS (by omega) hL d_L_law_1677 ?_
  refine lv_aload_n hx hb d_L_law_1678 rfl (lv_at hl 1 rfl) ?_
  refine gw_ci (gh_rS (n := 3) (As := [.ref (A 0), .int (xs (i + 1)), .ref o]) (rest := []) hF hT (hc_told (q0 := 0) (bo := 64) (o := o) (f := f) hx0.1 ho (fun r w h => by rw [h.2]) (fun Z w h => h.1) (c_X_told hlt hx0 hN1 hN5)) wm_3_102 wm_3_103 wm_1_0 wm_3_104 (by decide +kernel) ⟨(Nat.le_of_ble_eq_true rfl), (Nat.le_of_ble_eq_true rfl)⟩ rfl rfl (gh_pre hK hN hP hD hS hB hA hE hC) rfl hl.1 rfl (Nat.le_of_ble_eq_true rfl) d_L_law_1679 ⟨(by show _ ≤ 601024; omega), (by show _ ≤ 7292999; omega)⟩) hD hS hA (fun r w1 H locs hw hP hD hS => ?_)
  obtain ⟨hM1, hQ⟩ := lo_told hN1 hN5 hX0 hw
  have hF1 : lm_F N R EM (fun k => iv_mat N (B k)) := iv_F hN5 hA0
  refine lv_istore (lv' := [(5, .int r), (4, .int (nI i)), (3, .ref o), (2, .ref (A2 0)), (1, .ref (A 0)), (0, .ref b)]) hx hb d_L_law_1682 hl (by decide) rfl (fun ls hl => ?_)
  refine lv_aload_n hx hb d_L_law_1684 rfl (lv_at hl 3 rfl) ?_
  refine lv_aload_n hx hb d_L_law_1685 rfl (lv_at hl 5 rfl) ?_
  refine lv_iload hx hb d_L_law_1686 (lv_at hl 1 rfl) ?_
  refine lv_iconst (v := nI 1) hx hb d_L_law_1688 (by decide) ?_
  refine lv_iadd hx hb d_L_law_1689 ?_
  refine gx_i (y := nI (i + 1)) (nI_add _ _) ?_
  refine gl_ld (j := i + 1) hx hb hX hbl hbA hS (by omega) hL d_L_law_1690 ?_
  refine gw_ci (gc_L_177 (As := [.int (xs (i + 1))]) (rest := []) hF hT (c_M_told hM1 hN1 hN5) ⟨(Nat.le_of_ble_eq_true rfl), (Nat.le_of_ble_eq_true rfl)⟩ rfl rfl hK hN hP hD hM1.obj rfl hl.1 rfl (Nat.le_of_ble_eq_true rfl) d_L_law_1691 ⟨(by show _ ≤ 601024; omega), (by show _ ≤ 7292999; omega)⟩) hD hS hA (fun r' w2 H locs hw2 hP hD hS => ?_)
  obtain ⟨⟨⟨nm, hobj⟩, hLI⟩, f2, ho2, hv⟩ := hQ r' w2 hw2
  refine lv_istore (lv' := [(6, .int r'), (5, .int r), (4, .int (nI i)), (3, .ref o), (2, .ref (A2 0)), (1, .ref (A 0)), (0, .ref b)]) hx hb d_L_law_1694 hl (by decide) rfl (fun ls hl => ?_)
  refine lv_aload_n hx hb d_L_law_1696 rfl (lv_at hl 4 rfl) ?_
  refine gw_ci0 (gc_L_106 (As := []) (rest := []) hF hT (c_M_thrown hobj hN1 hN5) ⟨(Nat.le_of_ble_eq_true rfl), (Nat.le_of_ble_eq_true rfl)⟩ rfl rfl hK hN hP hD hobj rfl hl.1 rfl (Nat.le_of_ble_eq_true rfl) d_L_law_1697 ⟨(by show _ ≤ 601024; omega), (by show _ ≤ 7292999; omega)⟩) hD hS hA (fun r3 H locs e3 hP hD hS => ?_)
  subst e3
  refine lv_iload hx hb d_L_law_1700 (lv_at hl 1 rfl) ?_
  refine lv_icmp_eq (tgt := 1707) hx hb d_L_law_1702 (by decide) (fun c => ?_) (fun c => absurd rfl c)
  refine lv_iload hx hb d_L_law_1707 (lv_at hl 1 rfl) ?_
  refine lv_if_ne (tgt := 1724) hx hb d_L_law_1709 (by decide) (fun c => ?_) (fun c => ?_)
  · refine lv_goto (tgt := 1727) hx hb d_L_law_1724 (by decide) ?_
    refine W.widen (k := cells + 5) (n := slots + 30) (by omega) (by omega) ?_
    exact kk _ _ _ _ hLI hP hD hS (lv_sub hl [2, 3, 4, 5, 6] rfl)
  · refine lv_aload_n hx hb d_L_law_1712 rfl (lv_at hl 3 rfl) ?_
    refine lv_iconst (v := nI 0) hx hb d_L_law_1713 (by decide) ?_
    refine g_lald (t0 := 0) (k := 0) hx hb hK hP ho2 rfl (by omega) (by omega) d_L_law_1714 ?_
    refine lv_iload hx hb d_L_law_1715 (lv_at hl 0 rfl) ?_
    refine lv_i2l (v := (r').toInt64) hx hb d_L_law_1717 rfl ?_
    refine gx_leq (tgt := 1724) hx hb d_L_law_1718 d_L_law_1719 (by decide) (fun c8 => ?_) (fun c8 => absurd (hv (c.trans nI_0.symm)) c8)
    refine lv_goto (tgt := 1727) hx hb d_L_law_1724 (by decide) ?_
    refine W.widen (k := cells + 5) (n := slots + 30) (by omega) (by omega) ?_
    exact kk _ _ _ _ hLI hP hD hS (lv_sub hl [2, 3, 4, 5, 6] rfl)
