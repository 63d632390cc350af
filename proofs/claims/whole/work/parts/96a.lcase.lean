/-! the law's cases; written by program -/
set_option maxHeartbeats 4000000 in
set_option maxRecDepth 100000 in
theorem lc_all {p : Program} {l : Launch} {e : Env} {s : State} {m : MethodId} {below : List Frame} {meth : Method} {c : Code} {b L : Nat} {xs : Nat → Int32} {D : va_G} {cJ cI cZ cS : ClassId} {A A2 : Nat → Nat} {o N : Nat} {sf : Nat → Option Nat} {i : Nat} {w : va_W} {H : Heap} {locs : List Loc} {cells slots : Nat} {ls : Array Slot} {Q : State → Prop} (hlt : l.stackTraces = false) (hF : CallFix p m c code 8 s #[Value.ref b] lw_tbl R_L) (hK : va_K D classes (gT cJ cI cZ cS) s) (hN : gN s) (hE : gE s.heap.size s s.heap) (hC : gC s) (hX : va_X b L xs s s.heap) (hbl : b < s.heap.size) (hi : i + 6 ≤ L) (hL : L ≤ 3073) (hN1 : 1 ≤ N) (hN5 : N ≤ 5) (hI : LI cJ cI cZ cS A A2 o N sf w) (hP : va_P D classes w H) (hD : va_D (va_A [] s.heap.size) w) (hS : va_S (va_A [] s.heap.size) s.heap H locs) (hc : cells + 5 ≤ 601024) (hs : slots + 30 ≤ 7292999) (hl : lv_has ls 8 [(4, .int (nI i)), (3, .ref o), (2, .ref (A2 0)), (1, .ref (A 0)), (0, .ref b)]) (kk : ∀ (w : va_W) (H : Heap) (locs : List Loc) (ls : Array Slot), LI cJ cI cZ cS A A2 o N sf w → va_P D classes w H → va_D (va_A [] s.heap.size) w → va_S (va_A [] s.heap.size) s.heap H locs → lv_has ls 8 [(4, .int (nI i)), (3, .ref o), (2, .ref (A2 0)), (1, .ref (A 0)), (0, .ref b)] → W p l e room_1 s m #[Value.ref b] below meth c H locs (cells + 5) (slots + 30) Q (F0 m 1727 ls [])) : W p l e room_1 s m #[Value.ref b] below meth c H locs cells slots Q (F0 m 148 ls []) := by
  have hx := hF.1
  have hb := hF.2.1
  have hown := hF.2.2.2.1
  have hts := hF.2.2.2.2
  have hT : ∀ w ∈ wG, w ∈ lw_tbl := fun w h => (List.mem_filter.mp h).1
  have hA : ∀ q, s.heap.size ≤ q → va_A [] s.heap.size q := fun q h => Or.inr h
  have hB : ∀ q, va_A [] s.heap.size q → s.heap.size ≤ q := fun q h => by
    rcases h with ⟨k, e, h⟩ | h
    · exact absurd h (by simp)
    · exact h
  have hbA : ¬ va_A [] s.heap.size b := fun h => Nat.not_le.mpr hbl (hB b h)
  obtain ⟨K, B, E, Km, Bm, Em, Lf, Tr, nu, ne, m1, th, R, EM, Pt, nA, nB, nC, hX0⟩ := hI
  have hx0 := hX0.1
  obtain ⟨f, ho⟩ := hX0.2.2.1
  have hA0 := hX0.2.2.2.1
  have hEm := hX0.2.2.2.2.2.2.1
  have hm1 := hX0.2.2.2.2.2.2.2
  refine lv_aload_n hx hb d_L_law_148 rfl (lv_at hl 3 rfl) ?_
  refine lv_aload_n hx hb d_L_law_149 rfl (lv_at hl 4 rfl) ?_
  refine lv_iload hx hb d_L_law_150 (lv_at hl 0 rfl) ?_
  refine lv_iconst (v := nI 1) hx hb d_L_law_152 (by decide) ?_
  refine lv_iadd hx hb d_L_law_153 ?_
  refine gx_i (y := nI (i + 1)) (nI_add _ _) ?_
  refine gl_ld (j := i + 1) hx hb hX hbl hbA hS (by omega) hL d_L_law_154 ?_
  refine gw_ci (gh_rS (n := 2) (As := [.ref (A 0), .int (xs (i + 1))]) (rest := []) hF hT (hc_all (q0 := 0) (bo := 64) (o := o) (f := f) hx0.1 (fun Z w h => h.1) (c_X_all hlt hx0 hN1 hN5 hEm)) wm_1_106 wm_1_107 wm_1_0 wm_1_108 (by decide +kernel) ⟨(Nat.le_of_ble_eq_true rfl), (Nat.le_of_ble_eq_true rfl)⟩ rfl rfl (gh_pre hK hN hP hD hS hB hA hE hC) rfl hl.1 rfl (Nat.le_of_ble_eq_true rfl) d_L_law_155 ⟨(by show _ ≤ 601024; omega), (by show _ ≤ 7292999; omega)⟩) hD hS hA (fun r w1 H locs hw hP hD hS => ?_)
  obtain ⟨hM1, hQ⟩ := lo_all hN1 hN5 hX0 hw
  have hF1 : lm_F N R EM (fun k => iv_mat N (B k)) := iv_F hN5 hA0
  refine lv_istore (lv' := [(5, .int r), (4, .int (nI i)), (3, .ref o), (2, .ref (A2 0)), (1, .ref (A 0)), (0, .ref b)]) hx hb d_L_law_158 hl (by decide) rfl (fun ls hl => ?_)
  refine lv_aload_n hx hb d_L_law_160 rfl (lv_at hl 3 rfl) ?_
  refine lv_aload_n hx hb d_L_law_161 rfl (lv_at hl 5 rfl) ?_
  refine lv_iload hx hb d_L_law_162 (lv_at hl 1 rfl) ?_
  refine lv_iconst (v := nI 1) hx hb d_L_law_164 (by decide) ?_
  refine lv_iadd hx hb d_L_law_165 ?_
  refine gx_i (y := nI (i + 1)) (nI_add _ _) ?_
  refine gl_ld (j := i + 1) hx hb hX hbl hbA hS (by omega) hL d_L_law_166 ?_
  refine gw_cv (gc_L_105 (As := [.int (xs (i + 1))]) (rest := []) hF hT (c_M_all hM1 hN1 hN5) ⟨(Nat.le_of_ble_eq_true rfl), (Nat.le_of_ble_eq_true rfl)⟩ rfl rfl hK hN hP hD hM1.obj rfl hl.1 rfl (Nat.le_of_ble_eq_true rfl) d_L_law_167 ⟨(by show _ ≤ 601024; omega), (by show _ ≤ 7292999; omega)⟩) hD hS hA (fun w2 H locs hw2 hP hD hS => ?_)
  obtain ⟨⟨nm, hobj⟩, hLI⟩ := hQ w2 hw2
  refine lv_aload_n hx hb d_L_law_170 rfl (lv_at hl 3 rfl) ?_
  refine gw_ci0 (gc_L_106 (As := []) (rest := []) hF hT (c_M_thrown hobj hN1 hN5) ⟨(Nat.le_of_ble_eq_true rfl), (Nat.le_of_ble_eq_true rfl)⟩ rfl rfl hK hN hP hD hobj rfl hl.1 rfl (Nat.le_of_ble_eq_true rfl) d_L_law_171 ⟨(by show _ ≤ 601024; omega), (by show _ ≤ 7292999; omega)⟩) hD hS hA (fun r3 H locs e3 hP hD hS => ?_)
  subst e3
  refine lv_iload hx hb d_L_law_174 (lv_at hl 0 rfl) ?_
  refine lv_icmp_eq (tgt := 181) hx hb d_L_law_176 (by decide) (fun c => ?_) (fun c => absurd rfl c)
  refine lv_goto (tgt := 1727) hx hb d_L_law_181 (by decide) ?_
  refine W.widen (k := cells + 5) (n := slots + 30) (by omega) (by omega) ?_
  exact kk _ _ _ _ hLI hP hD hS (lv_sub hl [1, 2, 3, 4, 5] rfl)

set_option maxHeartbeats 4000000 in
set_option maxRecDepth 100000 in
theorem lc_row {p : Program} {l : Launch} {e : Env} {s : State} {m : MethodId} {below : List Frame} {meth : Method} {c : Code} {b L : Nat} {xs : Nat → Int32} {D : va_G} {cJ cI cZ cS : ClassId} {A A2 : Nat → Nat} {o N : Nat} {sf : Nat → Option Nat} {i : Nat} {w : va_W} {H : Heap} {locs : List Loc} {cells slots : Nat} {ls : Array Slot} {Q : State → Prop} (hlt : l.stackTraces = false) (hF : CallFix p m c code 8 s #[Value.ref b] lw_tbl R_L) (hK : va_K D classes (gT cJ cI cZ cS) s) (hN : gN s) (hE : gE s.heap.size s s.heap) (hC : gC s) (hX : va_X b L xs s s.heap) (hbl : b < s.heap.size) (hi : i + 6 ≤ L) (hL : L ≤ 3073) (hN1 : 1 ≤ N) (hN5 : N ≤ 5) (hI : LI cJ cI cZ cS A A2 o N sf w) (hP : va_P D classes w H) (hD : va_D (va_A [] s.heap.size) w) (hS : va_S (va_A [] s.heap.size) s.heap H locs) (hc : cells + 5 ≤ 601024) (hs : slots + 30 ≤ 7292999) (hl : lv_has ls 8 [(4, .int (nI i)), (3, .ref o), (2, .ref (A2 0)), (1, .ref (A 0)), (0, .ref b)]) (kk : ∀ (w : va_W) (H : Heap) (locs : List Loc) (ls : Array Slot), LI cJ cI cZ cS A A2 o N sf w → va_P D classes w H → va_D (va_A [] s.heap.size) w → va_S (va_A [] s.heap.size) s.heap H locs → lv_has ls 8 [(4, .int (nI i)), (3, .ref o), (2, .ref (A2 0)), (1, .ref (A 0)), (0, .ref b)] → W p l e room_1 s m #[Value.ref b] below meth c H locs (cells + 5) (slots + 30) Q (F0 m 1727 ls [])) : W p l e room_1 s m #[Value.ref b] below meth c H locs cells slots Q (F0 m 184 ls []) := by
  have hx := hF.1
  have hb := hF.2.1
  have hown := hF.2.2.2.1
  have hts := hF.2.2.2.2
  have hT : ∀ w ∈ wG, w ∈ lw_tbl := fun w h => (List.mem_filter.mp h).1
  have hA : ∀ q, s.heap.size ≤ q → va_A [] s.heap.size q := fun q h => Or.inr h
  have hB : ∀ q, va_A [] s.heap.size q → s.heap.size ≤ q := fun q h => by
    rcases h with ⟨k, e, h⟩ | h
    · exact absurd h (by simp)
    · exact h
  have hbA : ¬ va_A [] s.heap.size b := fun h => Nat.not_le.mpr hbl (hB b h)
  obtain ⟨K, B, E, Km, Bm, Em, Lf, Tr, nu, ne, m1, th, R, EM, Pt, nA, nB, nC, hX0⟩ := hI
  have hx0 := hX0.1
  obtain ⟨f, ho⟩ := hX0.2.2.1
  have hA0 := hX0.2.2.2.1
  have hEm := hX0.2.2.2.2.2.2.1
  have hm1 := hX0.2.2.2.2.2.2.2
  refine lv_aload_n hx hb d_L_law_184 rfl (lv_at hl 3 rfl) ?_
  refine lv_aload_n hx hb d_L_law_185 rfl (lv_at hl 4 rfl) ?_
  refine lv_iload hx hb d_L_law_186 (lv_at hl 0 rfl) ?_
  refine lv_iconst (v := nI 1) hx hb d_L_law_188 (by decide) ?_
  refine lv_iadd hx hb d_L_law_189 ?_
  refine gx_i (y := nI (i + 1)) (nI_add _ _) ?_
  refine gl_ld (j := i + 1) hx hb hX hbl hbA hS (by omega) hL d_L_law_190 ?_
  refine lv_aload_n hx hb d_L_law_191 rfl (lv_at hl 4 rfl) ?_
  refine lv_iload hx hb d_L_law_192 (lv_at hl 0 rfl) ?_
  refine lv_iconst (v := nI 2) hx hb d_L_law_194 (by decide) ?_
  refine lv_iadd hx hb d_L_law_195 ?_
  refine gx_i (y := nI (i + 2)) (nI_add _ _) ?_
  refine gl_ld (j := i + 2) hx hb hX hbl hbA hS (by omega) hL d_L_law_196 ?_
  refine lv_aload_n hx hb d_L_law_197 rfl (lv_at hl 4 rfl) ?_
  refine lv_iload hx hb d_L_law_198 (lv_at hl 0 rfl) ?_
  refine lv_iconst (v := nI 3) hx hb d_L_law_200 (by decide) ?_
  refine lv_iadd hx hb d_L_law_201 ?_
  refine gx_i (y := nI (i + 3)) (nI_add _ _) ?_
  refine gl_ld (j := i + 3) hx hb hX hbl hbA hS (by omega) hL d_L_law_202 ?_
  refine lv_aload_n hx hb d_L_law_203 rfl (lv_at hl 4 rfl) ?_
  refine lv_iload hx hb d_L_law_204 (lv_at hl 0 rfl) ?_
  refine lv_iconst (v := nI 4) hx hb d_L_law_206 (by decide) ?_
  refine lv_iadd hx hb d_L_law_207 ?_
  refine gx_i (y := nI (i + 4)) (nI_add _ _) ?_
  refine gl_ld (j := i + 4) hx hb hX hbl hbA hS (by omega) hL d_L_law_208 ?_
  refine lv_i2l (v := (xs (i + 4)).toInt64) hx hb d_L_law_209 rfl ?_
  refine lv_bipush (v := nI 32) hx hb d_L_law_210 (by decide) ?_
  refine lv_lshl (v := ((xs (i + 4)).toInt64) <<< ((nI 32).toInt64 &&& 63)) hx hb d_L_law_212 rfl ?_
  refine lv_aload_n hx hb d_L_law_213 rfl (lv_at hl 4 rfl) ?_
  refine lv_iload hx hb d_L_law_214 (lv_at hl 0 rfl) ?_
  refine lv_iconst (v := nI 5) hx hb d_L_law_216 (by decide) ?_
  refine lv_iadd hx hb d_L_law_217 ?_
  refine gx_i (y := nI (i + 5)) (nI_add _ _) ?_
  refine gl_ld (j := i + 5) hx hb hX hbl hbA hS (by omega) hL d_L_law_218 ?_
  refine lv_i2l (v := (xs (i + 5)).toInt64) hx hb d_L_law_219 rfl ?_
  refine lv_ldc2 (v := (4294967295 : Int64)) hx hb hown (hts _ (hT _ wm_4_120)) d_L_law_220 ?_
  refine lv_land hx hb d_L_law_223 ?_
  refine lv_lor hx hb d_L_law_224 ?_
  refine lv_aload_n hx hb d_L_law_225 rfl (lv_at hl 1 rfl) ?_
  refine gw_ci (gh_rS (n := 6) (As := [.ref (A 0), .int (xs (i + 1)), .int (xs (i + 2)), .int (xs (i + 3)), .long ((((xs (i + 4)).toInt64) <<< ((nI 32).toInt64 &&& 63)) ||| (((xs (i + 5)).toInt64) &&& (4294967295 : Int64))), .ref o]) (rest := []) hF hT (hc_row (q0 := 0) (bo := 64) (o := o) (f := f) hx0.1 ho (fun r w h => by obtain ⟨_, _, k, _, _, _, _, _, _, _, _, _, _, _, h4⟩ := h; exact h4.1 64 (Or.inr (by omega))) (fun Z w h => h.imp (fun q => q.1) (fun q => q.imp (fun q => q.1) (fun q => q.1))) (c_X_row hlt hx0 hN1 hN5 hEm)) wm_1_193 wm_1_194 wm_1_0 wm_1_195 (by decide +kernel) ⟨(Nat.le_of_ble_eq_true rfl), (Nat.le_of_ble_eq_true rfl)⟩ rfl rfl (gh_pre hK hN hP hD hS hB hA hE hC) rfl hl.1 rfl (Nat.le_of_ble_eq_true rfl) d_L_law_226 ⟨(by show _ ≤ 601024; omega), (by show _ ≤ 7292999; omega)⟩) hD hS hA (fun r w1 H locs hw hP hD hS => ?_)
  obtain ⟨o', c1, hM1, hQ⟩ := lo_row hN1 hN5 hX0 hw
  have hF1 : lm_F N R EM (fun k => iv_mat N (B k)) := iv_F hN5 hA0
  refine lv_istore (lv' := [(5, .int r), (4, .int (nI i)), (3, .ref o), (2, .ref (A2 0)), (1, .ref (A 0)), (0, .ref b)]) hx hb d_L_law_229 hl (by decide) rfl (fun ls hl => ?_)
  refine lv_aload_n hx hb d_L_law_231 rfl (lv_at hl 3 rfl) ?_
  refine lv_aload_n hx hb d_L_law_232 rfl (lv_at hl 5 rfl) ?_
  refine lv_iload hx hb d_L_law_233 (lv_at hl 1 rfl) ?_
  refine lv_iconst (v := nI 1) hx hb d_L_law_235 (by decide) ?_
  refine lv_iadd hx hb d_L_law_236 ?_
  refine gx_i (y := nI (i + 1)) (nI_add _ _) ?_
  refine gl_ld (j := i + 1) hx hb hX hbl hbA hS (by omega) hL d_L_law_237 ?_
  refine lv_aload_n hx hb d_L_law_238 rfl (lv_at hl 5 rfl) ?_
  refine lv_iload hx hb d_L_law_239 (lv_at hl 1 rfl) ?_
  refine lv_iconst (v := nI 2) hx hb d_L_law_241 (by decide) ?_
  refine lv_iadd hx hb d_L_law_242 ?_
  refine gx_i (y := nI (i + 2)) (nI_add _ _) ?_
  refine gl_ld (j := i + 2) hx hb hX hbl hbA hS (by omega) hL d_L_law_243 ?_
  refine lv_aload_n hx hb d_L_law_244 rfl (lv_at hl 5 rfl) ?_
  refine lv_iload hx hb d_L_law_245 (lv_at hl 1 rfl) ?_
  refine lv_iconst (v := nI 3) hx hb d_L_law_247 (by decide) ?_
  refine lv_iadd hx hb d_L_law_248 ?_
  refine gx_i (y := nI (i + 3)) (nI_add _ _) ?_
  refine gl_ld (j := i + 3) hx hb hX hbl hbA hS (by omega) hL d_L_law_249 ?_
  refine lv_aload_n hx hb d_L_law_250 rfl (lv_at hl 5 rfl) ?_
  refine lv_iload hx hb d_L_law_251 (lv_at hl 1 rfl) ?_
  refine lv_iconst (v := nI 4) hx hb d_L_law_253 (by decide) ?_
  refine lv_iadd hx hb d_L_law_254 ?_
  refine gx_i (y := nI (i + 4)) (nI_add _ _) ?_
  refine gl_ld (j := i + 4) hx hb hX hbl hbA hS (by omega) hL d_L_law_255 ?_
  refine lv_i2l (v := (xs (i + 4)).toInt64) hx hb d_L_law_256 rfl ?_
  refine lv_bipush (v := nI 32) hx hb d_L_law_257 (by decide) ?_
  refine lv_lshl (v := ((xs (i + 4)).toInt64) <<< ((nI 32).toInt64 &&& 63)) hx hb d_L_law_259 rfl ?_
  refine lv_aload_n hx hb d_L_law_260 rfl (lv_at hl 5 rfl) ?_
  refine lv_iload hx hb d_L_law_261 (lv_at hl 1 rfl) ?_
  refine lv_iconst (v := nI 5) hx hb d_L_law_263 (by decide) ?_
  refine lv_iadd hx hb d_L_law_264 ?_
  refine gx_i (y := nI (i + 5)) (nI_add _ _) ?_
  refine gl_ld (j := i + 5) hx hb hX hbl hbA hS (by omega) hL d_L_law_265 ?_
  refine lv_i2l (v := (xs (i + 5)).toInt64) hx hb d_L_law_266 rfl ?_
  refine lv_ldc2 (v := (4294967295 : Int64)) hx hb hown (hts _ (hT _ wm_4_120)) d_L_law_267 ?_
  refine lv_land hx hb d_L_law_270 ?_
  refine lv_lor hx hb d_L_law_271 ?_
  refine gw_ci (gc_L_115 (As := [.int (xs (i + 1)), .int (xs (i + 2)), .int (xs (i + 3)), .long ((((xs (i + 4)).toInt64) <<< ((nI 32).toInt64 &&& 63)) ||| (((xs (i + 5)).toInt64) &&& (4294967295 : Int64)))]) (rest := []) hF hT (c_M_row hM1 hN1 hN5 c1) ⟨(Nat.le_of_ble_eq_true rfl), (Nat.le_of_ble_eq_true rfl)⟩ rfl rfl hK hN hP hD hM1.obj rfl hl.1 rfl (Nat.le_of_ble_eq_true rfl) d_L_law_272 ⟨(by show _ ≤ 601024; omega), (by show _ ≤ 7292999; omega)⟩) hD hS hA (fun r' w2 H locs hw2 hP hD hS => ?_)
  obtain ⟨⟨⟨nm, hobj⟩, hLI⟩, f2, ho2, hv⟩ := hQ r' w2 hw2
  refine lv_istore (lv' := [(6, .int r'), (5, .int r), (4, .int (nI i)), (3, .ref o), (2, .ref (A2 0)), (1, .ref (A 0)), (0, .ref b)]) hx hb d_L_law_275 hl (by decide) rfl (fun ls hl => ?_)
  refine lv_aload_n hx hb d_L_law_277 rfl (lv_at hl 4 rfl) ?_
  refine gw_ci0 (gc_L_106 (As := []) (rest := []) hF hT (c_M_thrown hobj hN1 hN5) ⟨(Nat.le_of_ble_eq_true rfl), (Nat.le_of_ble_eq_true rfl)⟩ rfl rfl hK hN hP hD hobj rfl hl.1 rfl (Nat.le_of_ble_eq_true rfl) d_L_law_278 ⟨(by show _ ≤ 601024; omega), (by show _ ≤ 7292999; omega)⟩) hD hS hA (fun r3 H locs e3 hP hD hS => ?_)
  subst e3
  refine lv_iload hx hb d_L_law_281 (lv_at hl 1 rfl) ?_
  refine lv_icmp_eq (tgt := 288) hx hb d_L_law_283 (by decide) (fun c => ?_) (fun c => absurd rfl c)
  refine lv_iload hx hb d_L_law_288 (lv_at hl 1 rfl) ?_
  refine lv_if_ne (tgt := 305) hx hb d_L_law_290 (by decide) (fun c => ?_) (fun c => ?_)
  · refine lv_goto (tgt := 1727) hx hb d_L_law_305 (by decide) ?_
    refine W.widen (k := cells + 5) (n := slots + 30) (by omega) (by omega) ?_
    exact kk _ _ _ _ hLI hP hD hS (lv_sub hl [2, 3, 4, 5, 6] rfl)
  · refine lv_aload_n hx hb d_L_law_293 rfl (lv_at hl 3 rfl) ?_
    refine lv_iconst (v := nI 0) hx hb d_L_law_294 (by decide) ?_
    refine g_lald (t0 := 0) (k := 0) hx hb hK hP ho2 rfl (by omega) (by omega) d_L_law_295 ?_
    refine lv_iload hx hb d_L_law_296 (lv_at hl 0 rfl) ?_
    refine lv_i2l (v := (r').toInt64) hx hb d_L_law_298 rfl ?_
    refine gx_leq (tgt := 305) hx hb d_L_law_299 d_L_law_300 (by decide) (fun c8 => ?_) (fun c8 => absurd (hv (c.trans nI_0.symm)) c8)
    refine lv_goto (tgt := 1727) hx hb d_L_law_305 (by decide) ?_
    refine W.widen (k := cells + 5) (n := slots + 30) (by omega) (by omega) ?_
    exact kk _ _ _ _ hLI hP hD hS (lv_sub hl [2, 3, 4, 5, 6] rfl)

set_option maxHeartbeats 4000000 in
set_option maxRecDepth 100000 in
theorem lc_bound {p : Program} {l : Launch} {e : Env} {s : State} {m : MethodId} {below : List Frame} {meth : Method} {c : Code} {b L : Nat} {xs : Nat → Int32} {D : va_G} {cJ cI cZ cS : ClassId} {A A2 : Nat → Nat} {o N : Nat} {sf : Nat → Option Nat} {i : Nat} {w : va_W} {H : Heap} {locs : List Loc} {cells slots : Nat} {ls : Array Slot} {Q : State → Prop} (hlt : l.stackTraces = false) (hF : CallFix p m c code 8 s #[Value.ref b] lw_tbl R_L) (hK : va_K D classes (gT cJ cI cZ cS) s) (hN : gN s) (hE : gE s.heap.size s s.heap) (hC : gC s) (hX : va_X b L xs s s.heap) (hbl : b < s.heap.size) (hi : i + 6 ≤ L) (hL : L ≤ 3073) (hN1 : 1 ≤ N) (hN5 : N ≤ 5) (hI : LI cJ cI cZ cS A A2 o N sf w) (hP : va_P D classes w H) (hD : va_D (va_A [] s.heap.size) w) (hS : va_S (va_A [] s.heap.size) s.heap H locs) (hc : cells + 5 ≤ 601024) (hs : slots + 30 ≤ 7292999) (hl : lv_has ls 8 [(4, .int (nI i)), (3, .ref o), (2, .ref (A2 0)), (1, .ref (A 0)), (0, .ref b)]) (kk : ∀ (w : va_W) (H : Heap) (locs : List Loc) (ls : Array Slot), LI cJ cI cZ cS A A2 o N sf w → va_P D classes w H → va_D (va_A [] s.heap.size) w → va_S (va_A [] s.heap.size) s.heap H locs → lv_has ls 8 [(4, .int (nI i)), (3, .ref o), (2, .ref (A2 0)), (1, .ref (A 0)), (0, .ref b)] → W p l e room_1 s m #[Value.ref b] below meth c H locs (cells + 5) (slots + 30) Q (F0 m 1727 ls [])) : W p l e room_1 s m #[Value.ref b] below meth c H locs cells slots Q (F0 m 308 ls []) := by
  have hx := hF.1
  have hb := hF.2.1
  have hown := hF.2.2.2.1
  have hts := hF.2.2.2.2
  have hT : ∀ w ∈ wG, w ∈ lw_tbl := fun w h => (List.mem_filter.mp h).1
  have hA : ∀ q, s.heap.size ≤ q → va_A [] s.heap.size q := fun q h => Or.inr h
  have hB : ∀ q, va_A [] s.heap.size q → s.heap.size ≤ q := fun q h => by
    rcases h with ⟨k, e, h⟩ | h
    · exact absurd h (by simp)
    · exact h
  have hbA : ¬ va_A [] s.heap.size b := fun h => Nat.not_le.mpr hbl (hB b h)
  obtain ⟨K, B, E, Km, Bm, Em, Lf, Tr, nu, ne, m1, th, R, EM, Pt, nA, nB, nC, hX0⟩ := hI
  have hx0 := hX0.1
  obtain ⟨f, ho⟩ := hX0.2.2.1
  have hA0 := hX0.2.2.2.1
  have hEm := hX0.2.2.2.2.2.2.1
  have hm1 := hX0.2.2.2.2.2.2.2
  refine lv_aload_n hx hb d_L_law_308 rfl (lv_at hl 3 rfl) ?_
  refine lv_aload_n hx hb d_L_law_309 rfl (lv_at hl 4 rfl) ?_
  refine lv_iload hx hb d_L_law_310 (lv_at hl 0 rfl) ?_
  refine lv_iconst (v := nI 1) hx hb d_L_law_312 (by decide) ?_
  refine lv_iadd hx hb d_L_law_313 ?_
  refine gx_i (y := nI (i + 1)) (nI_add _ _) ?_
  refine gl_ld (j := i + 1) hx hb hX hbl hbA hS (by omega) hL d_L_law_314 ?_
  refine lv_aload_n hx hb d_L_law_315 rfl (lv_at hl 4 rfl) ?_
  refine lv_iload hx hb d_L_law_316 (lv_at hl 0 rfl) ?_
  refine lv_iconst (v := nI 2) hx hb d_L_law_318 (by decide) ?_
  refine lv_iadd hx hb d_L_law_319 ?_
  refine gx_i (y := nI (i + 2)) (nI_add _ _) ?_
  refine gl_ld (j := i + 2) hx hb hX hbl hbA hS (by omega) hL d_L_law_320 ?_
  refine lv_aload_n hx hb d_L_law_321 rfl (lv_at hl 4 rfl) ?_
  refine lv_iload hx hb d_L_law_322 (lv_at hl 0 rfl) ?_
  refine lv_iconst (v := nI 3) hx hb d_L_law_324 (by decide) ?_
  refine lv_iadd hx hb d_L_law_325 ?_
  refine gx_i (y := nI (i + 3)) (nI_add _ _) ?_
  refine gl_ld (j := i + 3) hx hb hX hbl hbA hS (by omega) hL d_L_law_326 ?_
  refine lv_aload_n hx hb d_L_law_327 rfl (lv_at hl 1 rfl) ?_
  refine gw_ci (gh_rS (n := 5) (As := [.ref (A 0), .int (xs (i + 1)), .int (xs (i + 2)), .int (xs (i + 3)), .ref o]) (rest := []) hF hT (hc_bound (q0 := 0) (bo := 64) (o := o) (f := f) hx0.1 ho (fun r w h => by rw [h.2]) (fun Z w h => h.1) (c_X_bound hlt hx0 hN1 hN5)) wm_2_97 wm_2_98 wm_1_0 wm_2_99 (by decide +kernel) ⟨(Nat.le_of_ble_eq_true rfl), (Nat.le_of_ble_eq_true rfl)⟩ rfl rfl (gh_pre hK hN hP hD hS hB hA hE hC) rfl hl.1 rfl (Nat.le_of_ble_eq_true rfl) d_L_law_328 ⟨(by show _ ≤ 601024; omega), (by show _ ≤ 7292999; omega)⟩) hD hS hA (fun r w1 H locs hw hP hD hS => ?_)
  obtain ⟨hM1, hQ⟩ := lo_bound hN1 hN5 hX0 hw
  have hF1 : lm_F N R EM (fun k => iv_mat N (B k)) := iv_F hN5 hA0
  refine lv_istore (lv' := [(5, .int r), (4, .int (nI i)), (3, .ref o), (2, .ref (A2 0)), (1, .ref (A 0)), (0, .ref b)]) hx hb d_L_law_331 hl (by decide) rfl (fun ls hl => ?_)
  refine lv_aload_n hx hb d_L_law_333 rfl (lv_at hl 3 rfl) ?_
  refine lv_aload_n hx hb d_L_law_334 rfl (lv_at hl 5 rfl) ?_
  refine lv_iload hx hb d_L_law_335 (lv_at hl 1 rfl) ?_
  refine lv_iconst (v := nI 1) hx hb d_L_law_337 (by decide) ?_
  refine lv_iadd hx hb d_L_law_338 ?_
  refine gx_i (y := nI (i + 1)) (nI_add _ _) ?_
  refine gl_ld (j := i + 1) hx hb hX hbl hbA hS (by omega) hL d_L_law_339 ?_
  refine lv_aload_n hx hb d_L_law_340 rfl (lv_at hl 5 rfl) ?_
  refine lv_iload hx hb d_L_law_341 (lv_at hl 1 rfl) ?_
  refine lv_iconst (v := nI 2) hx hb d_L_law_343 (by decide) ?_
  refine lv_iadd hx hb d_L_law_344 ?_
  refine gx_i (y := nI (i + 2)) (nI_add _ _) ?_
  refine gl_ld (j := i + 2) hx hb hX hbl hbA hS (by omega) hL d_L_law_345 ?_
  refine lv_aload_n hx hb d_L_law_346 rfl (lv_at hl 5 rfl) ?_
  refine lv_iload hx hb d_L_law_347 (lv_at hl 1 rfl) ?_
  refine lv_iconst (v := nI 3) hx hb d_L_law_349 (by decide) ?_
  refine lv_iadd hx hb d_L_law_350 ?_
  refine gx_i (y := nI (i + 3)) (nI_add _ _) ?_
  refine gl_ld (j := i + 3) hx hb hX hbl hbA hS (by omega) hL d_L_law_351 ?_
  refine gw_cl (gc_L_119 (As := [.int (xs (i + 1)), .int (xs (i + 2)), .int (xs (i + 3))]) (rest := []) hF hT (c_M_bound hM1 hN1 hN5 hF1) ⟨(Nat.le_of_ble_eq_true rfl), (Nat.le_of_ble_eq_true rfl)⟩ rfl rfl hK hN hP hD hM1.obj rfl hl.1 rfl (Nat.le_of_ble_eq_true rfl) d_L_law_352 ⟨(by show _ ≤ 601024; omega), (by show _ ≤ 7292999; omega)⟩) hD hS hA (fun r' w2 H locs hw2 hP hD hS => ?_)
  obtain ⟨⟨⟨nm, hobj⟩, hLI⟩, f2, ho2, hv⟩ := hQ r' w2 hw2
  refine lv_lstore (lv' := [(6, .long r'), (5, .int r), (4, .int (nI i)), (3, .ref o), (2, .ref (A2 0)), (1, .ref (A 0)), (0, .ref b)]) hx hb d_L_law_355 hl (by decide) rfl (fun ls hl => ?_)
  refine lv_aload_n hx hb d_L_law_357 rfl (lv_at hl 4 rfl) ?_
  refine gw_ci0 (gc_L_106 (As := []) (rest := []) hF hT (c_M_thrown hobj hN1 hN5) ⟨(Nat.le_of_ble_eq_true rfl), (Nat.le_of_ble_eq_true rfl)⟩ rfl rfl hK hN hP hD hobj rfl hl.1 rfl (Nat.le_of_ble_eq_true rfl) d_L_law_358 ⟨(by show _ ≤ 601024; omega), (by show _ ≤ 7292999; omega)⟩) hD hS hA (fun r3 H locs e3 hP hD hS => ?_)
  subst e3
  refine lv_iload hx hb d_L_law_361 (lv_at hl 1 rfl) ?_
  refine lv_icmp_eq (tgt := 368) hx hb d_L_law_363 (by decide) (fun c => ?_) (fun c => absurd rfl c)
  refine lv_iload hx hb d_L_law_368 (lv_at hl 1 rfl) ?_
  refine lv_if_ne (tgt := 384) hx hb d_L_law_370 (by decide) (fun c => ?_) (fun c => ?_)
  · refine lv_goto (tgt := 1727) hx hb d_L_law_384 (by decide) ?_
    refine W.widen (k := cells + 5) (n := slots + 30) (by omega) (by omega) ?_
    exact kk _ _ _ _ hLI hP hD hS (lv_sub hl [2, 3, 4, 5, 6] rfl)
  · refine lv_aload_n hx hb d_L_law_373 rfl (lv_at hl 3 rfl) ?_
    refine lv_iconst (v := nI 0) hx hb d_L_law_374 (by decide) ?_
    refine g_lald (t0 := 0) (k := 0) hx hb hK hP ho2 rfl (by omega) (by omega) d_L_law_375 ?_
    refine lv_lload hx hb d_L_law_376 (lv_at hl 0 rfl) ?_
    refine gx_leq (tgt := 384) hx hb d_L_law_378 d_L_law_379 (by decide) (fun c8 => ?_) (fun c8 => absurd (hv (c.trans nI_0.symm)) c8)
    refine lv_goto (tgt := 1727) hx hb d_L_law_384 (by decide) ?_
    refine W.widen (k := cells + 5) (n := slots + 30) (by omega) (by omega) ?_
    exact kk _ _ _ _ hLI hP hD hS (lv_sub hl [2, 3, 4, 5, 6] rfl)

set_option maxHeartbeats 4000000 in
set_option maxRecDepth 100000 in
theorem lc_kept {p : Program} {l : Launch} {e : Env} {s : State} {m : MethodId} {below : List Frame} {meth : Method} {c : Code} {b L : Nat} {xs : Nat → Int32} {D : va_G} {cJ cI cZ cS : ClassId} {A A2 : Nat → Nat} {o N : Nat} {sf : Nat → Option Nat} {i : Nat} {w : va_W} {H : Heap} {locs : List Loc} {cells slots : Nat} {ls : Array Slot} {Q : State → Prop} (hlt : l.stackTraces = false) (hF : CallFix p m c code 8 s #[Value.ref b] lw_tbl R_L) (hK : va_K D classes (gT cJ cI cZ cS) s) (hN : gN s) (hE : gE s.heap.size s s.heap) (hC : gC s) (hX : va_X b L xs s s.heap) (hbl : b < s.heap.size) (hi : i + 6 ≤ L) (hL : L ≤ 3073) (hN1 : 1 ≤ N) (hN5 : N ≤ 5) (hI : LI cJ cI cZ cS A A2 o N sf w) (hP : va_P D classes w H) (hD : va_D (va_A [] s.heap.size) w) (hS : va_S (va_A [] s.heap.size) s.heap H locs) (hc : cells + 5 ≤ 601024) (hs : slots + 30 ≤ 7292999) (hl : lv_has ls 8 [(4, .int (nI i)), (3, .ref o), (2, .ref (A2 0)), (1, .ref (A 0)), (0, .ref b)]) (kk : ∀ (w : va_W) (H : Heap) (locs : List Loc) (ls : Array Slot), LI cJ cI cZ cS A A2 o N sf w → va_P D classes w H → va_D (va_A [] s.heap.size) w → va_S (va_A [] s.heap.size) s.heap H locs → lv_has ls 8 [(4, .int (nI i)), (3, .ref o), (2, .ref (A2 0)), (1, .ref (A 0)), (0, .ref b)] → W p l e room_1 s m #[Value.ref b] below meth c H locs (cells + 5) (slots + 30) Q (F0 m 1727 ls [])) : W p l e room_1 s m #[Value.ref b] below meth c H locs cells slots Q (F0 m 387 ls []) := by
  have hx := hF.1
  have hb := hF.2.1
  have hown := hF.2.2.2.1
  have hts := hF.2.2.2.2
  have hT : ∀ w ∈ wG, w ∈ lw_tbl := fun w h => (List.mem_filter.mp h).1
  have hA : ∀ q, s.heap.size ≤ q → va_A [] s.heap.size q := fun q h => Or.inr h
  have hB : ∀ q, va_A [] s.heap.size q → s.heap.size ≤ q := fun q h => by
    rcases h with ⟨k, e, h⟩ | h
    · exact absurd h (by simp)
    · exact h
  have hbA : ¬ va_A [] s.heap.size b := fun h => Nat.not_le.mpr hbl (hB b h)
  obtain ⟨K, B, E, Km, Bm, Em, Lf, Tr, nu, ne, m1, th, R, EM, Pt, nA, nB, nC, hX0⟩ := hI
  have hx0 := hX0.1
  obtain ⟨f, ho⟩ := hX0.2.2.1
  have hA0 := hX0.2.2.2.1
  have hEm := hX0.2.2.2.2.2.2.1
  have hm1 := hX0.2.2.2.2.2.2.2
  refine lv_aload_n hx hb d_L_law_387 rfl (lv_at hl 3 rfl) ?_
  refine lv_aload_n hx hb d_L_law_388 rfl (lv_at hl 4 rfl) ?_
  refine lv_iload hx hb d_L_law_389 (lv_at hl 0 rfl) ?_
  refine lv_iconst (v := nI 1) hx hb d_L_law_391 (by decide) ?_
  refine lv_iadd hx hb d_L_law_392 ?_
  refine gx_i (y := nI (i + 1)) (nI_add _ _) ?_
  refine gl_ld (j := i + 1) hx hb hX hbl hbA hS (by omega) hL d_L_law_393 ?_
  refine lv_aload_n hx hb d_L_law_394 rfl (lv_at hl 4 rfl) ?_
  refine lv_iload hx hb d_L_law_395 (lv_at hl 0 rfl) ?_
  refine lv_iconst (v := nI 2) hx hb d_L_law_397 (by decide) ?_
  refine lv_iadd hx hb d_L_law_398 ?_
  refine gx_i (y := nI (i + 2)) (nI_add _ _) ?_
  refine gl_ld (j := i + 2) hx hb hX hbl hbA hS (by omega) hL d_L_law_399 ?_
  refine lv_aload_n hx hb d_L_law_400 rfl (lv_at hl 4 rfl) ?_
  refine lv_iload hx hb d_L_law_401 (lv_at hl 0 rfl) ?_
  refine lv_iconst (v := nI 3) hx hb d_L_law_403 (by decide) ?_
  refine lv_iadd hx hb d_L_law_404 ?_
  refine gx_i (y := nI (i + 3)) (nI_add _ _) ?_
  refine gl_ld (j := i + 3) hx hb hX hbl hbA hS (by omega) hL d_L_law_405 ?_
  refine lv_aload_n hx hb d_L_law_406 rfl (lv_at hl 1 rfl) ?_
  refine gw_ci (gh_rS (n := 5) (As := [.ref (A 0), .int (xs (i + 1)), .int (xs (i + 2)), .int (xs (i + 3)), .ref o]) (rest := []) hF hT (hc_kept (q0 := 0) (bo := 64) (o := o) (f := f) hx0.1 ho (fun r w h => by rw [h.2]) (fun Z w h => h.1) (c_X_kept hlt hx0 hN1 hN5)) wm_2_114 wm_2_115 wm_1_0 wm_2_116 (by decide +kernel) ⟨(Nat.le_of_ble_eq_true rfl), (Nat.le_of_ble_eq_true rfl)⟩ rfl rfl (gh_pre hK hN hP hD hS hB hA hE hC) rfl hl.1 rfl (Nat.le_of_ble_eq_true rfl) d_L_law_407 ⟨(by show _ ≤ 601024; omega), (by show _ ≤ 7292999; omega)⟩) hD hS hA (fun r w1 H locs hw hP hD hS => ?_)
  obtain ⟨hM1, hQ⟩ := lo_kept hN1 hN5 hX0 hw
  have hF1 : lm_F N R EM (fun k => iv_mat N (B k)) := iv_F hN5 hA0
  refine lv_istore (lv' := [(5, .int r), (4, .int (nI i)), (3, .ref o), (2, .ref (A2 0)), (1, .ref (A 0)), (0, .ref b)]) hx hb d_L_law_410 hl (by decide) rfl (fun ls hl => ?_)
  refine lv_aload_n hx hb d_L_law_412 rfl (lv_at hl 3 rfl) ?_
  refine lv_aload_n hx hb d_L_law_413 rfl (lv_at hl 5 rfl) ?_
  refine lv_iload hx hb d_L_law_414 (lv_at hl 1 rfl) ?_
  refine lv_iconst (v := nI 1) hx hb d_L_law_416 (by decide) ?_
  refine lv_iadd hx hb d_L_law_417 ?_
  refine gx_i (y := nI (i + 1)) (nI_add _ _) ?_
  refine gl_ld (j := i + 1) hx hb hX hbl hbA hS (by omega) hL d_L_law_418 ?_
  refine lv_aload_n hx hb d_L_law_419 rfl (lv_at hl 5 rfl) ?_
  refine lv_iload hx hb d_L_law_420 (lv_at hl 1 rfl) ?_
  refine lv_iconst (v := nI 2) hx hb d_L_law_422 (by decide) ?_
  refine lv_iadd hx hb d_L_law_423 ?_
  refine gx_i (y := nI (i + 2)) (nI_add _ _) ?_
  refine gl_ld (j := i + 2) hx hb hX hbl hbA hS (by omega) hL d_L_law_424 ?_
  refine lv_aload_n hx hb d_L_law_425 rfl (lv_at hl 5 rfl) ?_
  refine lv_iload hx hb d_L_law_426 (lv_at hl 1 rfl) ?_
  refine lv_iconst (v := nI 3) hx hb d_L_law_428 (by decide) ?_
  refine lv_iadd hx hb d_L_law_429 ?_
  refine gx_i (y := nI (i + 3)) (nI_add _ _) ?_
  refine gl_ld (j := i + 3) hx hb hX hbl hbA hS (by omega) hL d_L_law_430 ?_
  refine gw_cl (gc_L_122 (As := [.int (xs (i + 1)), .int (xs (i + 2)), .int (xs (i + 3))]) (rest := []) hF hT (c_M_kept hM1 hN1 hN5) ⟨(Nat.le_of_ble_eq_true rfl), (Nat.le_of_ble_eq_true rfl)⟩ rfl rfl hK hN hP hD hM1.obj rfl hl.1 rfl (Nat.le_of_ble_eq_true rfl) d_L_law_431 ⟨(by show _ ≤ 601024; omega), (by show _ ≤ 7292999; omega)⟩) hD hS hA (fun r' w2 H locs hw2 hP hD hS => ?_)
  obtain ⟨⟨⟨nm, hobj⟩, hLI⟩, f2, ho2, hv⟩ := hQ r' w2 hw2
  refine lv_lstore (lv' := [(6, .long r'), (5, .int r), (4, .int (nI i)), (3, .ref o), (2, .ref (A2 0)), (1, .ref (A 0)), (0, .ref b)]) hx hb d_L_law_434 hl (by decide) rfl (fun ls hl => ?_)
  refine lv_aload_n hx hb d_L_law_436 rfl (lv_at hl 4 rfl) ?_
  refine gw_ci0 (gc_L_106 (As := []) (rest := []) hF hT (c_M_thrown hobj hN1 hN5) ⟨(Nat.le_of_ble_eq_true rfl), (Nat.le_of_ble_eq_true rfl)⟩ rfl rfl hK hN hP hD hobj rfl hl.1 rfl (Nat.le_of_ble_eq_true rfl) d_L_law_437 ⟨(by show _ ≤ 601024; omega), (by show _ ≤ 7292999; omega)⟩) hD hS hA (fun r3 H locs e3 hP hD hS => ?_)
  subst e3
  refine lv_iload hx hb d_L_law_440 (lv_at hl 1 rfl) ?_
  refine lv_icmp_eq (tgt := 447) hx hb d_L_law_442 (by decide) (fun c => ?_) (fun c => absurd rfl c)
  refine lv_iload hx hb d_L_law_447 (lv_at hl 1 rfl) ?_
  refine lv_if_ne (tgt := 463) hx hb d_L_law_449 (by decide) (fun c => ?_) (fun c => ?_)
  · refine lv_goto (tgt := 1727) hx hb d_L_law_463 (by decide) ?_
    refine W.widen (k := cells + 5) (n := slots + 30) (by omega) (by omega) ?_
    exact kk _ _ _ _ hLI hP hD hS (lv_sub hl [2, 3, 4, 5, 6] rfl)
  · refine lv_aload_n hx hb d_L_law_452 rfl (lv_at hl 3 rfl) ?_
    refine lv_iconst (v := nI 0) hx hb d_L_law_453 (by decide) ?_
    refine g_lald (t0 := 0) (k := 0) hx hb hK hP ho2 rfl (by omega) (by omega) d_L_law_454 ?_
    refine lv_lload hx hb d_L_law_455 (lv_at hl 0 rfl) ?_
    refine gx_leq (tgt := 463) hx hb d_L_law_457 d_L_law_458 (by decide) (fun c8 => ?_) (fun c8 => absurd (hv (c.trans nI_0.symm)) c8)
    refine lv_goto (tgt := 1727) hx hb d_L_law_463 (by decide) ?_
    refine W.widen (k := cells + 5) (n := slots + 30) (by omega) (by omega) ?_
    exact kk _ _ _ _ hLI hP hD hS (lv_sub hl [2, 3, 4, 5, 6] rfl)

set_option maxHeartbeats 4000000 in
set_option maxRecDepth 100000 in
theorem lc_meet {p : Program} {l : Launch} {e : Env} {s : State} {m : MethodId} {below : List Frame} {meth : Method} {c : Code} {b L : Nat} {xs : Nat → Int32} {D : va_G} {cJ cI cZ cS : ClassId} {A A2 : Nat → Nat} {o N : Nat} {sf : Nat → Option Nat} {i : Nat} {w : va_W} {H : Heap} {locs : List Loc} {cells slots : Nat} {ls : Array Slot} {Q : State → Prop} (hlt : l.stackTraces = false) (hF : CallFix p m c code 8 s #[Value.ref b] lw_tbl R_L) (hK : va_K D classes (gT cJ cI cZ cS) s) (hN : gN s) (hE : gE s.heap.size s s.heap) (hC : gC s) (hX : va_X b L xs s s.heap) (hbl : b < s.heap.size) (hi : i + 6 ≤ L) (hL : L ≤ 3073) (hN1 : 1 ≤ N) (hN5 : N ≤ 5) (hI : LI cJ cI cZ cS A A2 o N sf w) (hP : va_P D classes w H) (hD : va_D (va_A [] s.heap.size) w) (hS : va_S (va_A [] s.heap.size) s.heap H locs) (hc : cells + 5 ≤ 601024) (hs : slots + 30 ≤ 7292999) (hl : lv_has ls 8 [(4, .int (nI i)), (3, .ref o), (2, .ref (A2 0)), (1, .ref (A 0)), (0, .ref b)]) (kk : ∀ (w : va_W) (H : Heap) (locs : List Loc) (ls : Array Slot), LI cJ cI cZ cS A A2 o N sf w → va_P D classes w H → va_D (va_A [] s.heap.size) w → va_S (va_A [] s.heap.size) s.heap H locs → lv_has ls 8 [(4, .int (nI i)), (3, .ref o), (2, .ref (A2 0)), (1, .ref (A 0)), (0, .ref b)] → W p l e room_1 s m #[Value.ref b] below meth c H locs (cells + 5) (slots + 30) Q (F0 m 1727 ls [])) : W p l e room_1 s m #[Value.ref b] below meth c H locs cells slots Q (F0 m 466 ls []) := by
  have hx := hF.1
  have hb := hF.2.1
  have hown := hF.2.2.2.1
  have hts := hF.2.2.2.2
  have hT : ∀ w ∈ wG, w ∈ lw_tbl := fun w h => (List.mem_filter.mp h).1
  have hA : ∀ q, s.heap.size ≤ q → va_A [] s.heap.size q := fun q h => Or.inr h
  have hB : ∀ q, va_A [] s.heap.size q → s.heap.size ≤ q := fun q h => by
    rcases h with ⟨k, e, h⟩ | h
    · exact absurd h (by simp)
    · exact h
  have hbA : ¬ va_A [] s.heap.size b := fun h => Nat.not_le.mpr hbl (hB b h)
  obtain ⟨K, B, E, Km, Bm, Em, Lf, Tr, nu, ne, m1, th, R, EM, Pt, nA, nB, nC, hX0⟩ := hI
  have hx0 := hX0.1
  obtain ⟨f, ho⟩ := hX0.2.2.1
  have hA0 := hX0.2.2.2.1
  have hEm := hX0.2.2.2.2.2.2.1
  have hm1 := hX0.2.2.2.2.2.2.2
  refine lv_aload_n hx hb d_L_law_466 rfl (lv_at hl 3 rfl) ?_
  refine lv_aload_n hx hb d_L_law_467 rfl (lv_at hl 4 rfl) ?_
  refine lv_iload hx hb d_L_law_468 (lv_at hl 0 rfl) ?_
  refine lv_iconst (v := nI 1) hx hb d_L_law_470 (by decide) ?_
  refine lv_iadd hx hb d_L_law_471 ?_
  refine gx_i (y := nI (i + 1)) (nI_add _ _) ?_
  refine gl_ld (j := i + 1) hx hb hX hbl hbA hS (by omega) hL d_L_law_472 ?_
  refine lv_aload_n hx hb d_L_law_473 rfl (lv_at hl 4 rfl) ?_
  refine lv_iload hx hb d_L_law_474 (lv_at hl 0 rfl) ?_
  refine lv_iconst (v := nI 2) hx hb d_L_law_476 (by decide) ?_
  refine lv_iadd hx hb d_L_law_477 ?_
  refine gx_i (y := nI (i + 2)) (nI_add _ _) ?_
  refine gl_ld (j := i + 2) hx hb hX hbl hbA hS (by omega) hL d_L_law_478 ?_
  refine lv_aload_n hx hb d_L_law_479 rfl (lv_at hl 4 rfl) ?_
  refine lv_iload hx hb d_L_law_480 (lv_at hl 0 rfl) ?_
  refine lv_iconst (v := nI 3) hx hb d_L_law_482 (by decide) ?_
  refine lv_iadd hx hb d_L_law_483 ?_
  refine gx_i (y := nI (i + 3)) (nI_add _ _) ?_
  refine gl_ld (j := i + 3) hx hb hX hbl hbA hS (by omega) hL d_L_law_484 ?_
  refine lv_aload_n hx hb d_L_law_485 rfl (lv_at hl 1 rfl) ?_
  refine gw_ci (gh_rS (n := 5) (As := [.ref (A 0), .int (xs (i + 1)), .int (xs (i + 2)), .int (xs (i + 3)), .ref o]) (rest := []) hF hT (hc_meet (q0 := 0) (bo := 64) (o := o) (f := f) hx0.1 ho (fun r w h => by obtain ⟨_, k, _, _, k2, _, _, k3, _, _, _, _, _, _, _, _, _, _, _, h4⟩ := h; exact h4.1 64 (Or.inr (by omega))) (fun Z w h => h.imp (fun q => q.1) (fun q => q.1)) (c_X_meet hlt hx0 hN1 hN5 hEm)) wm_2_122 wm_2_123 wm_1_0 wm_2_124 (by decide +kernel) ⟨(Nat.le_of_ble_eq_true rfl), (Nat.le_of_ble_eq_true rfl)⟩ rfl rfl (gh_pre hK hN hP hD hS hB hA hE hC) rfl hl.1 rfl (Nat.le_of_ble_eq_true rfl) d_L_law_486 ⟨(by show _ ≤ 601024; omega), (by show _ ≤ 7292999; omega)⟩) hD hS hA (fun r w1 H locs hw hP hD hS => ?_)
  obtain ⟨o', c1, hM1, hQ⟩ := lo_meet hN1 hN5 hX0 hw
  have hF1 : lm_F N R EM (fun k => iv_mat N (B k)) := iv_F hN5 hA0
  refine lv_istore (lv' := [(5, .int r), (4, .int (nI i)), (3, .ref o), (2, .ref (A2 0)), (1, .ref (A 0)), (0, .ref b)]) hx hb d_L_law_489 hl (by decide) rfl (fun ls hl => ?_)
  refine lv_aload_n hx hb d_L_law_491 rfl (lv_at hl 3 rfl) ?_
  refine lv_aload_n hx hb d_L_law_492 rfl (lv_at hl 5 rfl) ?_
  refine lv_iload hx hb d_L_law_493 (lv_at hl 1 rfl) ?_
  refine lv_iconst (v := nI 1) hx hb d_L_law_495 (by decide) ?_
  refine lv_iadd hx hb d_L_law_496 ?_
  refine gx_i (y := nI (i + 1)) (nI_add _ _) ?_
  refine gl_ld (j := i + 1) hx hb hX hbl hbA hS (by omega) hL d_L_law_497 ?_
  refine lv_aload_n hx hb d_L_law_498 rfl (lv_at hl 5 rfl) ?_
  refine lv_iload hx hb d_L_law_499 (lv_at hl 1 rfl) ?_
  refine lv_iconst (v := nI 2) hx hb d_L_law_501 (by decide) ?_
  refine lv_iadd hx hb d_L_law_502 ?_
  refine gx_i (y := nI (i + 2)) (nI_add _ _) ?_
  refine gl_ld (j := i + 2) hx hb hX hbl hbA hS (by omega) hL d_L_law_503 ?_
  refine lv_aload_n hx hb d_L_law_504 rfl (lv_at hl 5 rfl) ?_
  refine lv_iload hx hb d_L_law_505 (lv_at hl 1 rfl) ?_
  refine lv_iconst (v := nI 3) hx hb d_L_law_507 (by decide) ?_
  refine lv_iadd hx hb d_L_law_508 ?_
  refine gx_i (y := nI (i + 3)) (nI_add _ _) ?_
  refine gl_ld (j := i + 3) hx hb hX hbl hbA hS (by omega) hL d_L_law_509 ?_
  refine gw_ci (gc_L_125 (As := [.int (xs (i + 1)), .int (xs (i + 2)), .int (xs (i + 3))]) (rest := []) hF hT (c_M_meet hM1 hN1 hN5 hF1 c1) ⟨(Nat.le_of_ble_eq_true rfl), (Nat.le_of_ble_eq_true rfl)⟩ rfl rfl hK hN hP hD hM1.obj rfl hl.1 rfl (Nat.le_of_ble_eq_true rfl) d_L_law_510 ⟨(by show _ ≤ 601024; omega), (by show _ ≤ 7292999; omega)⟩) hD hS hA (fun r' w2 H locs hw2 hP hD hS => ?_)
  obtain ⟨⟨⟨nm, hobj⟩, hLI⟩, f2, ho2, hv⟩ := hQ r' w2 hw2
  refine lv_istore (lv' := [(6, .int r'), (5, .int r), (4, .int (nI i)), (3, .ref o), (2, .ref (A2 0)), (1, .ref (A 0)), (0, .ref b)]) hx hb d_L_law_513 hl (by decide) rfl (fun ls hl => ?_)
  refine lv_aload_n hx hb d_L_law_515 rfl (lv_at hl 4 rfl) ?_
  refine gw_ci0 (gc_L_106 (As := []) (rest := []) hF hT (c_M_thrown hobj hN1 hN5) ⟨(Nat.le_of_ble_eq_true rfl), (Nat.le_of_ble_eq_true rfl)⟩ rfl rfl hK hN hP hD hobj rfl hl.1 rfl (Nat.le_of_ble_eq_true rfl) d_L_law_516 ⟨(by show _ ≤ 601024; omega), (by show _ ≤ 7292999; omega)⟩) hD hS hA (fun r3 H locs e3 hP hD hS => ?_)
  subst e3
  refine lv_iload hx hb d_L_law_519 (lv_at hl 1 rfl) ?_
  refine lv_icmp_eq (tgt := 526) hx hb d_L_law_521 (by decide) (fun c => ?_) (fun c => absurd rfl c)
  refine lv_iload hx hb d_L_law_526 (lv_at hl 1 rfl) ?_
  refine lv_if_ne (tgt := 543) hx hb d_L_law_528 (by decide) (fun c => ?_) (fun c => ?_)
  · refine lv_goto (tgt := 1727) hx hb d_L_law_543 (by decide) ?_
    refine W.widen (k := cells + 5) (n := slots + 30) (by omega) (by omega) ?_
    exact kk _ _ _ _ hLI hP hD hS (lv_sub hl [2, 3, 4, 5, 6] rfl)
  · refine lv_aload_n hx hb d_L_law_531 rfl (lv_at hl 3 rfl) ?_
    refine lv_iconst (v := nI 0) hx hb d_L_law_532 (by decide) ?_
    refine g_lald (t0 := 0) (k := 0) hx hb hK hP ho2 rfl (by omega) (by omega) d_L_law_533 ?_
    refine lv_iload hx hb d_L_law_534 (lv_at hl 0 rfl) ?_
    refine lv_i2l (v := (r').toInt64) hx hb d_L_law_536 rfl ?_
    refine gx_leq (tgt := 543) hx hb d_L_law_537 d_L_law_538 (by decide) (fun c8 => ?_) (fun c8 => absurd (hv (c.trans nI_0.symm)) c8)
    refine lv_goto (tgt := 1727) hx hb d_L_law_543 (by decide) ?_
    refine W.widen (k := cells + 5) (n := slots + 30) (by omega) (by omega) ?_
    exact kk _ _ _ _ hLI hP hD hS (lv_sub hl [2, 3, 4, 5, 6] rfl)

set_option maxHeartbeats 4000000 in
set_option maxRecDepth 100000 in
theorem lc_join {p : Program} {l : Launch} {e : Env} {s : State} {m : MethodId} {below : List Frame} {meth : Method} {c : Code} {b L : Nat} {xs : Nat → Int32} {D : va_G} {cJ cI cZ cS : ClassId} {A A2 : Nat → Nat} {o N : Nat} {sf : Nat → Option Nat} {i : Nat} {w : va_W} {H : Heap} {locs : List Loc} {cells slots : Nat} {ls : Array Slot} {Q : State → Prop} (hlt : l.stackTraces = false) (hF : CallFix p m c code 8 s #[Value.ref b] lw_tbl R_L) (hK : va_K D classes (gT cJ cI cZ cS) s) (hN : gN s) (hE : gE s.heap.size s s.heap) (hC : gC s) (hX : va_X b L xs s s.heap) (hbl : b < s.heap.size) (hi : i + 6 ≤ L) (hL : L ≤ 3073) (hN1 : 1 ≤ N) (hN5 : N ≤ 5) (hI : LI cJ cI cZ cS A A2 o N sf w) (hP : va_P D classes w H) (hD : va_D (va_A [] s.heap.size) w) (hS : va_S (va_A [] s.heap.size) s.heap H locs) (hc : cells + 5 ≤ 601024) (hs : slots + 30 ≤ 7292999) (hl : lv_has ls 8 [(4, .int (nI i)), (3, .ref o), (2, .ref (A2 0)), (1, .ref (A 0)), (0, .ref b)]) (kk : ∀ (w : va_W) (H : Heap) (locs : List Loc) (ls : Array Slot), LI cJ cI cZ cS A A2 o N sf w → va_P D classes w H → va_D (va_A [] s.heap.size) w → va_S (va_A [] s.heap.size) s.heap H locs → lv_has ls 8 [(4, .int (nI i)), (3, .ref o), (2, .ref (A2 0)), (1, .ref (A 0)), (0, .ref b)] → W p l e room_1 s m #[Value.ref b] below meth c H locs (cells + 5) (slots + 30) Q (F0 m 1727 ls [])) : W p l e room_1 s m #[Value.ref b] below meth c H locs cells slots Q (F0 m 546 ls []) := by
  have hx := hF.1
  have hb := hF.2.1
  have hown := hF.2.2.2.1
  have hts := hF.2.2.2.2
  have hT : ∀ w ∈ wG, w ∈ lw_tbl := fun w h => (List.mem_filter.mp h).1
  have hA : ∀ q, s.heap.size ≤ q → va_A [] s.heap.size q := fun q h => Or.inr h
  have hB : ∀ q, va_A [] s.heap.size q → s.heap.size ≤ q := fun q h => by
    rcases h with ⟨k, e, h⟩ | h
    · exact absurd h (by simp)
    · exact h
  have hbA : ¬ va_A [] s.heap.size b := fun h => Nat.not_le.mpr hbl (hB b h)
  obtain ⟨K, B, E, Km, Bm, Em, Lf, Tr, nu, ne, m1, th, R, EM, Pt, nA, nB, nC, hX0⟩ := hI
  have hx0 := hX0.1
  obtain ⟨f, ho⟩ := hX0.2.2.1
  have hA0 := hX0.2.2.2.1
  have hEm := hX0.2.2.2.2.2.2.1
  have hm1 := hX0.2.2.2.2.2.2.2
  refine lv_aload_n hx hb d_L_law_546 rfl (lv_at hl 3 rfl) ?_
  refine lv_aload_n hx hb d_L_law_547 rfl (lv_at hl 4 rfl) ?_
  refine lv_iload hx hb d_L_law_548 (lv_at hl 0 rfl) ?_
  refine lv_iconst (v := nI 1) hx hb d_L_law_550 (by decide) ?_
  refine lv_iadd hx hb d_L_law_551 ?_
  refine gx_i (y := nI (i + 1)) (nI_add _ _) ?_
  refine gl_ld (j := i + 1) hx hb hX hbl hbA hS (by omega) hL d_L_law_552 ?_
  refine lv_aload_n hx hb d_L_law_553 rfl (lv_at hl 4 rfl) ?_
  refine lv_iload hx hb d_L_law_554 (lv_at hl 0 rfl) ?_
  refine lv_iconst (v := nI 2) hx hb d_L_law_556 (by decide) ?_
  refine lv_iadd hx hb d_L_law_557 ?_
  refine gx_i (y := nI (i + 2)) (nI_add _ _) ?_
  refine gl_ld (j := i + 2) hx hb hX hbl hbA hS (by omega) hL d_L_law_558 ?_
  refine lv_aload_n hx hb d_L_law_559 rfl (lv_at hl 4 rfl) ?_
  refine lv_iload hx hb d_L_law_560 (lv_at hl 0 rfl) ?_
  refine lv_iconst (v := nI 3) hx hb d_L_law_562 (by decide) ?_
  refine lv_iadd hx hb d_L_law_563 ?_
  refine gx_i (y := nI (i + 3)) (nI_add _ _) ?_
  refine gl_ld (j := i + 3) hx hb hX hbl hbA hS (by omega) hL d_L_law_564 ?_
  refine lv_aload_n hx hb d_L_law_565 rfl (lv_at hl 1 rfl) ?_
  refine gw_ci (gh_rS (n := 5) (As := [.ref (A 0), .int (xs (i + 1)), .int (xs (i + 2)), .int (xs (i + 3)), .ref o]) (rest := []) hF hT (hc_join (q0 := 0) (bo := 64) (o := o) (f := f) hx0.1 ho (fun r w h => by obtain ⟨_, k, _, _, k2, _, _, k3, _, _, _, _, _, _, _, _, _, _, _, h4⟩ := h; exact h4.1 64 (Or.inr (by omega))) (fun Z w h => h.elim (fun q => q.1) (fun ⟨_, _, k, _, _, k2, hk2, _, k3, hk3, _, K1, B1, E1, h1, ⟨e1, e2⟩, _⟩ => absurd e2 (iv_join_nf hN5 hA0 hk2 hk3 h1 e1))) (c_X_join hlt hx0 hN1 hN5 hEm)) wm_2_144 wm_2_145 wm_1_0 wm_2_146 (by decide +kernel) ⟨(Nat.le_of_ble_eq_true rfl), (Nat.le_of_ble_eq_true rfl)⟩ rfl rfl (gh_pre hK hN hP hD hS hB hA hE hC) rfl hl.1 rfl (Nat.le_of_ble_eq_true rfl) d_L_law_566 ⟨(by show _ ≤ 601024; omega), (by show _ ≤ 7292999; omega)⟩) hD hS hA (fun r w1 H locs hw hP hD hS => ?_)
  obtain ⟨o', c1, hM1, hQ⟩ := lo_join hN1 hN5 hX0 hw
  have hF1 : lm_F N R EM (fun k => iv_mat N (B k)) := iv_F hN5 hA0
  refine lv_istore (lv' := [(5, .int r), (4, .int (nI i)), (3, .ref o), (2, .ref (A2 0)), (1, .ref (A 0)), (0, .ref b)]) hx hb d_L_law_569 hl (by decide) rfl (fun ls hl => ?_)
  refine lv_aload_n hx hb d_L_law_571 rfl (lv_at hl 3 rfl) ?_
  refine lv_aload_n hx hb d_L_law_572 rfl (lv_at hl 5 rfl) ?_
  refine lv_iload hx hb d_L_law_573 (lv_at hl 1 rfl) ?_
  refine lv_iconst (v := nI 1) hx hb d_L_law_575 (by decide) ?_
  refine lv_iadd hx hb d_L_law_576 ?_
  refine gx_i (y := nI (i + 1)) (nI_add _ _) ?_
  refine gl_ld (j := i + 1) hx hb hX hbl hbA hS (by omega) hL d_L_law_577 ?_
  refine lv_aload_n hx hb d_L_law_578 rfl (lv_at hl 5 rfl) ?_
  refine lv_iload hx hb d_L_law_579 (lv_at hl 1 rfl) ?_
  refine lv_iconst (v := nI 2) hx hb d_L_law_581 (by decide) ?_
  refine lv_iadd hx hb d_L_law_582 ?_
  refine gx_i (y := nI (i + 2)) (nI_add _ _) ?_
  refine gl_ld (j := i + 2) hx hb hX hbl hbA hS (by omega) hL d_L_law_583 ?_
  refine lv_aload_n hx hb d_L_law_584 rfl (lv_at hl 5 rfl) ?_
  refine lv_iload hx hb d_L_law_585 (lv_at hl 1 rfl) ?_
  refine lv_iconst (v := nI 3) hx hb d_L_law_587 (by decide) ?_
  refine lv_iadd hx hb d_L_law_588 ?_
  refine gx_i (y := nI (i + 3)) (nI_add _ _) ?_
  refine gl_ld (j := i + 3) hx hb hX hbl hbA hS (by omega) hL d_L_law_589 ?_
  refine gw_ci (gc_L_128 (As := [.int (xs (i + 1)), .int (xs (i + 2)), .int (xs (i + 3))]) (rest := []) hF hT (c_M_join hM1 hN1 hN5 hF1 c1) ⟨(Nat.le_of_ble_eq_true rfl), (Nat.le_of_ble_eq_true rfl)⟩ rfl rfl hK hN hP hD hM1.obj rfl hl.1 rfl (Nat.le_of_ble_eq_true rfl) d_L_law_590 ⟨(by show _ ≤ 601024; omega), (by show _ ≤ 7292999; omega)⟩) hD hS hA (fun r' w2 H locs hw2 hP hD hS => ?_)
  obtain ⟨⟨⟨nm, hobj⟩, hLI⟩, f2, ho2, hv⟩ := hQ r' w2 hw2
  refine lv_istore (lv' := [(6, .int r'), (5, .int r), (4, .int (nI i)), (3, .ref o), (2, .ref (A2 0)), (1, .ref (A 0)), (0, .ref b)]) hx hb d_L_law_593 hl (by decide) rfl (fun ls hl => ?_)
  refine lv_aload_n hx hb d_L_law_595 rfl (lv_at hl 4 rfl) ?_
  refine gw_ci0 (gc_L_106 (As := []) (rest := []) hF hT (c_M_thrown hobj hN1 hN5) ⟨(Nat.le_of_ble_eq_true rfl), (Nat.le_of_ble_eq_true rfl)⟩ rfl rfl hK hN hP hD hobj rfl hl.1 rfl (Nat.le_of_ble_eq_true rfl) d_L_law_596 ⟨(by show _ ≤ 601024; omega), (by show _ ≤ 7292999; omega)⟩) hD hS hA (fun r3 H locs e3 hP hD hS => ?_)
  subst e3
  refine lv_iload hx hb d_L_law_599 (lv_at hl 1 rfl) ?_
  refine lv_icmp_eq (tgt := 606) hx hb d_L_law_601 (by decide) (fun c => ?_) (fun c => absurd rfl c)
  refine lv_iload hx hb d_L_law_606 (lv_at hl 1 rfl) ?_
  refine lv_if_ne (tgt := 623) hx hb d_L_law_608 (by decide) (fun c => ?_) (fun c => ?_)
  · refine lv_goto (tgt := 1727) hx hb d_L_law_623 (by decide) ?_
    refine W.widen (k := cells + 5) (n := slots + 30) (by omega) (by omega) ?_
    exact kk _ _ _ _ hLI hP hD hS (lv_sub hl [2, 3, 4, 5, 6] rfl)
  · refine lv_aload_n hx hb d_L_law_611 rfl (lv_at hl 3 rfl) ?_
    refine lv_iconst (v := nI 0) hx hb d_L_law_612 (by decide) ?_
    refine g_lald (t0 := 0) (k := 0) hx hb hK hP ho2 rfl (by omega) (by omega) d_L_law_613 ?_
    refine lv_iload hx hb d_L_law_614 (lv_at hl 0 rfl) ?_
    refine lv_i2l (v := (r').toInt64) hx hb d_L_law_616 rfl ?_
    refine gx_leq (tgt := 623) hx hb d_L_law_617 d_L_law_618 (by decide) (fun c8 => ?_) (fun c8 => absurd (hv (c.trans nI_0.symm)) c8)
    refine lv_goto (tgt := 1727) hx hb d_L_law_623 (by decide) ?_
    refine W.widen (k := cells + 5) (n := slots + 30) (by omega) (by omega) ?_
    exact kk _ _ _ _ hLI hP hD hS (lv_sub hl [2, 3, 4, 5, 6] rfl)

set_option maxHeartbeats 4000000 in
set_option maxRecDepth 100000 in
theorem lc_widen {p : Program} {l : Launch} {e : Env} {s : State} {m : MethodId} {below : List Frame} {meth : Method} {c : Code} {b L : Nat} {xs : Nat → Int32} {D : va_G} {cJ cI cZ cS : ClassId} {A A2 : Nat → Nat} {o N : Nat} {sf : Nat → Option Nat} {i : Nat} {w : va_W} {H : Heap} {locs : List Loc} {cells slots : Nat} {ls : Array Slot} {Q : State → Prop} (hlt : l.stackTraces = false) (hF : CallFix p m c code 8 s #[Value.ref b] lw_tbl R_L) (hK : va_K D classes (gT cJ cI cZ cS) s) (hN : gN s) (hE : gE s.heap.size s s.heap) (hC : gC s) (hX : va_X b L xs s s.heap) (hbl : b < s.heap.size) (hi : i + 6 ≤ L) (hL : L ≤ 3073) (hN1 : 1 ≤ N) (hN5 : N ≤ 5) (hI : LI cJ cI cZ cS A A2 o N sf w) (hP : va_P D classes w H) (hD : va_D (va_A [] s.heap.size) w) (hS : va_S (va_A [] s.heap.size) s.heap H locs) (hc : cells + 5 ≤ 601024) (hs : slots + 30 ≤ 7292999) (hl : lv_has ls 8 [(4, .int (nI i)), (3, .ref o), (2, .ref (A2 0)), (1, .ref (A 0)), (0, .ref b)]) (kk : ∀ (w : va_W) (H : Heap) (locs : List Loc) (ls : Array Slot), LI cJ cI cZ cS A A2 o N sf w → va_P D classes w H → va_D (va_A [] s.heap.size) w → va_S (va_A [] s.heap.size) s.heap H locs → lv_has ls 8 [(4, .int (nI i)), (3, .ref o), (2, .ref (A2 0)), (1, .ref (A 0)), (0, .ref b)] → W p l e room_1 s m #[Value.ref b] below meth c H locs (cells + 5) (slots + 30) Q (F0 m 1727 ls [])) : W p l e room_1 s m #[Value.ref b] below meth c H locs cells slots Q (F0 m 626 ls []) := by
  have hx := hF.1
  have hb := hF.2.1
  have hown := hF.2.2.2.1
  have hts := hF.2.2.2.2
  have hT : ∀ w ∈ wG, w ∈ lw_tbl := fun w h => (List.mem_filter.mp h).1
  have hA : ∀ q, s.heap.size ≤ q → va_A [] s.heap.size q := fun q h => Or.inr h
  have hB : ∀ q, va_A [] s.heap.size q → s.heap.size ≤ q := fun q h => by
    rcases h with ⟨k, e, h⟩ | h
    · exact absurd h (by simp)
    · exact h
  have hbA : ¬ va_A [] s.heap.size b := fun h => Nat.not_le.mpr hbl (hB b h)
  obtain ⟨K, B, E, Km, Bm, Em, Lf, Tr, nu, ne, m1, th, R, EM, Pt, nA, nB, nC, hX0⟩ := hI
  have hx0 := hX0.1
  obtain ⟨f, ho⟩ := hX0.2.2.1
  have hA0 := hX0.2.2.2.1
  have hEm := hX0.2.2.2.2.2.2.1
  have hm1 := hX0.2.2.2.2.2.2.2
  refine lv_aload_n hx hb d_L_law_626 rfl (lv_at hl 3 rfl) ?_
  refine lv_aload_n hx hb d_L_law_627 rfl (lv_at hl 4 rfl) ?_
  refine lv_iload hx hb d_L_law_628 (lv_at hl 0 rfl) ?_
  refine lv_iconst (v := nI 1) hx hb d_L_law_630 (by decide) ?_
  refine lv_iadd hx hb d_L_law_631 ?_
  refine gx_i (y := nI (i + 1)) (nI_add _ _) ?_
  refine gl_ld (j := i + 1) hx hb hX hbl hbA hS (by omega) hL d_L_law_632 ?_
  refine lv_aload_n hx hb d_L_law_633 rfl (lv_at hl 4 rfl) ?_
  refine lv_iload hx hb d_L_law_634 (lv_at hl 0 rfl) ?_
  refine lv_iconst (v := nI 2) hx hb d_L_law_636 (by decide) ?_
  refine lv_iadd hx hb d_L_law_637 ?_
  refine gx_i (y := nI (i + 2)) (nI_add _ _) ?_
  refine gl_ld (j := i + 2) hx hb hX hbl hbA hS (by omega) hL d_L_law_638 ?_
  refine lv_aload_n hx hb d_L_law_639 rfl (lv_at hl 4 rfl) ?_
  refine lv_iload hx hb d_L_law_640 (lv_at hl 0 rfl) ?_
  refine lv_iconst (v := nI 3) hx hb d_L_law_642 (by decide) ?_
  refine lv_iadd hx hb d_L_law_643 ?_
  refine gx_i (y := nI (i + 3)) (nI_add _ _) ?_
  refine gl_ld (j := i + 3) hx hb hX hbl hbA hS (by omega) hL d_L_law_644 ?_
  refine lv_aload_n hx hb d_L_law_645 rfl (lv_at hl 1 rfl) ?_
  refine gw_ci (gh_rS (n := 5) (As := [.ref (A 0), .int (xs (i + 1)), .int (xs (i + 2)), .int (xs (i + 3)), .ref o]) (rest := []) hF hT (hc_widen (q0 := 0) (bo := 64) (o := o) (f := f) hx0.1 ho (fun r w h => by obtain ⟨_, k, _, _, k2, _, _, k3, _, _, _, _, _, _, _, _, _, _, _, h4⟩ := h; exact h4.1 64 (Or.inr (by omega))) (fun Z w h => h.imp (fun q => q.1) (fun q => q.1)) (c_X_widen hlt hx0 hN1 hN5 hEm)) wm_2_159 wm_2_160 wm_1_0 wm_2_161 (by decide +kernel) ⟨(Nat.le_of_ble_eq_true rfl), (Nat.le_of_ble_eq_true rfl)⟩ rfl rfl (gh_pre hK hN hP hD hS hB hA hE hC) rfl hl.1 rfl (Nat.le_of_ble_eq_true rfl) d_L_law_646 ⟨(by show _ ≤ 601024; omega), (by show _ ≤ 7292999; omega)⟩) hD hS hA (fun r w1 H locs hw hP hD hS => ?_)
  obtain ⟨o', c1, hM1, hQ⟩ := lo_widen hN1 hN5 hX0 hw
  have hF1 : lm_F N R EM (fun k => iv_mat N (B k)) := iv_F hN5 hA0
  refine lv_istore (lv' := [(5, .int r), (4, .int (nI i)), (3, .ref o), (2, .ref (A2 0)), (1, .ref (A 0)), (0, .ref b)]) hx hb d_L_law_649 hl (by decide) rfl (fun ls hl => ?_)
  refine lv_aload_n hx hb d_L_law_651 rfl (lv_at hl 3 rfl) ?_
  refine lv_aload_n hx hb d_L_law_652 rfl (lv_at hl 5 rfl) ?_
  refine lv_iload hx hb d_L_law_653 (lv_at hl 1 rfl) ?_
  refine lv_iconst (v := nI 1) hx hb d_L_law_655 (by decide) ?_
  refine lv_iadd hx hb d_L_law_656 ?_
  refine gx_i (y := nI (i + 1)) (nI_add _ _) ?_
  refine gl_ld (j := i + 1) hx hb hX hbl hbA hS (by omega) hL d_L_law_657 ?_
  refine lv_aload_n hx hb d_L_law_658 rfl (lv_at hl 5 rfl) ?_
  refine lv_iload hx hb d_L_law_659 (lv_at hl 1 rfl) ?_
  refine lv_iconst (v := nI 2) hx hb d_L_law_661 (by decide) ?_
  refine lv_iadd hx hb d_L_law_662 ?_
  refine gx_i (y := nI (i + 2)) (nI_add _ _) ?_
  refine gl_ld (j := i + 2) hx hb hX hbl hbA hS (by omega) hL d_L_law_663 ?_
  refine lv_aload_n hx hb d_L_law_664 rfl (lv_at hl 5 rfl) ?_
  refine lv_iload hx hb d_L_law_665 (lv_at hl 1 rfl) ?_
  refine lv_iconst (v := nI 3) hx hb d_L_law_667 (by decide) ?_
  refine lv_iadd hx hb d_L_law_668 ?_
  refine gx_i (y := nI (i + 3)) (nI_add _ _) ?_
  refine gl_ld (j := i + 3) hx hb hX hbl hbA hS (by omega) hL d_L_law_669 ?_
  refine gw_ci (gc_L_131 (As := [.int (xs (i + 1)), .int (xs (i + 2)), .int (xs (i + 3))]) (rest := []) hF hT (c_M_widen hM1 hN1 hN5 (fun k hk => by rw [(hA0 k hk).2.2]; exact hx0.E01 hk) hF1 c1) ⟨(Nat.le_of_ble_eq_true rfl), (Nat.le_of_ble_eq_true rfl)⟩ rfl rfl hK hN hP hD hM1.obj rfl hl.1 rfl (Nat.le_of_ble_eq_true rfl) d_L_law_670 ⟨(by show _ ≤ 601024; omega), (by show _ ≤ 7292999; omega)⟩) hD hS hA (fun r' w2 H locs hw2 hP hD hS => ?_)
  obtain ⟨⟨⟨nm, hobj⟩, hLI⟩, f2, ho2, hv⟩ := hQ r' w2 hw2
  refine lv_istore (lv' := [(6, .int r'), (5, .int r), (4, .int (nI i)), (3, .ref o), (2, .ref (A2 0)), (1, .ref (A 0)), (0, .ref b)]) hx hb d_L_law_673 hl (by decide) rfl (fun ls hl => ?_)
  refine lv_aload_n hx hb d_L_law_675 rfl (lv_at hl 4 rfl) ?_
  refine gw_ci0 (gc_L_106 (As := []) (rest := []) hF hT (c_M_thrown hobj hN1 hN5) ⟨(Nat.le_of_ble_eq_true rfl), (Nat.le_of_ble_eq_true rfl)⟩ rfl rfl hK hN hP hD hobj rfl hl.1 rfl (Nat.le_of_ble_eq_true rfl) d_L_law_676 ⟨(by show _ ≤ 601024; omega), (by show _ ≤ 7292999; omega)⟩) hD hS hA (fun r3 H locs e3 hP hD hS => ?_)
  subst e3
  refine lv_iload hx hb d_L_law_679 (lv_at hl 1 rfl) ?_
  refine lv_icmp_eq (tgt := 686) hx hb d_L_law_681 (by decide) (fun c => ?_) (fun c => absurd rfl c)
  refine lv_iload hx hb d_L_law_686 (lv_at hl 1 rfl) ?_
  refine lv_if_ne (tgt := 703) hx hb d_L_law_688 (by decide) (fun c => ?_) (fun c => ?_)
  · refine lv_goto (tgt := 1727) hx hb d_L_law_703 (by decide) ?_
    refine W.widen (k := cells + 5) (n := slots + 30) (by omega) (by omega) ?_
    exact kk _ _ _ _ hLI hP hD hS (lv_sub hl [2, 3, 4, 5, 6] rfl)
  · refine lv_aload_n hx hb d_L_law_691 rfl (lv_at hl 3 rfl) ?_
    refine lv_iconst (v := nI 0) hx hb d_L_law_692 (by decide) ?_
    refine g_lald (t0 := 0) (k := 0) hx hb hK hP ho2 rfl (by omega) (by omega) d_L_law_693 ?_
    refine lv_iload hx hb d_L_law_694 (lv_at hl 0 rfl) ?_
    refine lv_i2l (v := (r').toInt64) hx hb d_L_law_696 rfl ?_
    refine gx_leq (tgt := 703) hx hb d_L_law_697 d_L_law_698 (by decide) (fun c8 => ?_) (fun c8 => absurd (hv (c.trans nI_0.symm)) c8)
    refine lv_goto (tgt := 1727) hx hb d_L_law_703 (by decide) ?_
    refine W.widen (k := cells + 5) (n := slots + 30) (by omega) (by omega) ?_
    exact kk _ _ _ _ hLI hP hD hS (lv_sub hl [2, 3, 4, 5, 6] rfl)
