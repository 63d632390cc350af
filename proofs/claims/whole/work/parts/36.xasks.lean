set_option maxHeartbeats 4000000 in
set_option maxRecDepth 100000 in
theorem c_S_becomeLike_s {l : Launch} {D : va_G} {cJ cI cZ cS : ClassId} {ws : va_W} {sz : Nat} {j n : Nat} {a : Nat → Nat} {K B : Nat → Int64} {E : Int32} (hs : shAt cJ ws j a n K B E) (hn : n ≤ 10) (he : n % 2 = 0) (hE : E = 0 ∨ E = 1) : Met l y_S_becomeLike w_S_becomeLike ({ frames := 2, cells := 0, slots := 0, locals := 51 } : Room) (gw_Pc D classes (gT cJ cI cZ cS) [.ref (a 0), .ref (a 0)] ws sz) (va_Qv (fun w => shAt cJ w j a n (lr_copy K K (n * n)) (lr_copy B B (n * n)) (E) ∧ gF j (j + 5) ws w) (gw_B D classes (gT cJ cI cZ cS) ws sz) (va_A ws sz)) 0 0 (va_A ws sz) := by
  refine gw_head (by decide) (Nat.le_of_ble_eq_true rfl) (fun p e s m below meth c hsz hx hb hr hlocks hml hown hnm hts hK hN hP hD hS hA ls hl => ?_)
  have hown : s.vm.findClass R_S = some m.cls := hown
  have hT : ∀ w ∈ wG, w ∈ Cond.code y_S_becomeLike b_S_becomeLike 2 none :: wG := gd_t _
  have hF : CallFix p m c b_S_becomeLike 2 s ([.ref (a 0), .ref (a 0)] : List Value).toArray (Cond.code y_S_becomeLike b_S_becomeLike 2 none :: wG) R_S := ⟨hx, hb, hml, hown, hts⟩
  have hl : lv_has ls 2 [(0, .ref (a 0)), (1, .ref (a 0))] := hl
  obtain ⟨s0, ⟨sko, skc⟩, ⟨sbo, sbc⟩⟩ := hs
  have hfr : gF j (j + 5) ws ws := gF.rf
  refine lv_aload_n hx hb d_S_becomeLike_0 rfl (lv_at hl 0 rfl) ?_
  refine lv_aload_n hx hb d_S_becomeLike_1 rfl (lv_at hl 1 rfl) ?_
  refine gf_S_31 hF hT hK hP s0 rfl d_S_becomeLike_2 ?_
  refine gp_S_31 hF hT hK hP hD hS (fs1 := [.int (nI n), .ref (a 1), .ref (a 3), .int E]) s0 (gz_n hE) (gz_f hE) (Nat.le_of_ble_eq_true rfl) rfl d_S_becomeLike_5 (fun w H locs s0 hf hP hD hS => ?_)
  have sko := hf.at sko (by omega)
  have skc := hf.at skc (by omega)
  have sbo := hf.at sbo (by omega)
  have sbc := hf.at sbc (by omega)
  have hfr := hfr.in hf (by omega) (by omega)
  refine lv_aload_n hx hb d_S_becomeLike_8 rfl (lv_at hl 0 rfl) ?_
  refine gf_S_20 hF hT hK hP s0 rfl d_S_becomeLike_9 ?_
  refine lv_aload_n hx hb d_S_becomeLike_12 rfl (lv_at hl 1 rfl) ?_
  refine gf_S_20 hF hT hK hP s0 rfl d_S_becomeLike_13 ?_
  refine gw_cv (gc_S_41 (As := [.ref (a 1)]) (rest := []) hF hT (c_T_takeFrom ⟨sko, skc⟩ hn ⟨sko, skc⟩) ⟨(Nat.le_of_ble_eq_true rfl), (Nat.le_of_ble_eq_true rfl)⟩ rfl rfl hK hN hP hD sko rfl hl.1 rfl (Nat.le_of_ble_eq_true rfl) d_S_becomeLike_16 ⟨(Nat.le_of_ble_eq_true rfl), (Nat.le_of_ble_eq_true rfl)⟩) hD hS hA (fun w H locs hw hP hD hS => ?_)
  obtain ⟨⟨sko, skc⟩, hf⟩ := hw
  have s0 := hf.at s0 (by omega)
  have sbo := hf.at sbo (by omega)
  have sbc := hf.at sbc (by omega)
  have hfr := hfr.in hf (by omega) (by omega)
  refine lv_aload_n hx hb d_S_becomeLike_19 rfl (lv_at hl 0 rfl) ?_
  refine gf_S_24 hF hT hK hP s0 rfl d_S_becomeLike_20 ?_
  refine lv_aload_n hx hb d_S_becomeLike_23 rfl (lv_at hl 1 rfl) ?_
  refine gf_S_24 hF hT hK hP s0 rfl d_S_becomeLike_24 ?_
  refine gw_cv (gc_S_41 (As := [.ref (a 3)]) (rest := []) hF hT (c_T_takeFrom ⟨sbo, sbc⟩ hn ⟨sbo, sbc⟩) ⟨(Nat.le_of_ble_eq_true rfl), (Nat.le_of_ble_eq_true rfl)⟩ rfl rfl hK hN hP hD sbo rfl hl.1 rfl (Nat.le_of_ble_eq_true rfl) d_S_becomeLike_27 ⟨(Nat.le_of_ble_eq_true rfl), (Nat.le_of_ble_eq_true rfl)⟩) hD hS hA (fun w H locs hw hP hD hS => ?_)
  obtain ⟨⟨sbo, sbc⟩, hf⟩ := hw
  have s0 := hf.at s0 (by omega)
  have sko := hf.at sko (by omega)
  have skc := hf.at skc (by omega)
  have hfr := hfr.in hf (by omega) (by omega)
  exact gw_vret hx hb hr hlocks hK hP hD hS (Nat.le_of_ble_eq_true rfl) (Nat.le_of_ble_eq_true rfl) d_S_becomeLike_30 ⟨⟨s0, ⟨sko, skc⟩, ⟨sbo, sbc⟩⟩, hfr⟩

set_option maxHeartbeats 4000000 in
set_option maxRecDepth 100000 in
theorem c_X_all {l : Launch} (hlt : l.stackTraces = false) {D : va_G} {cJ cI cZ cS : ClassId} {ws : va_W} {sz base : Nat} {b N : Nat} {A : Nat → Nat} {sf : Nat → Option Nat} {K B : Nat → Nat → Int64} {E : Nat → Int32} {Km Bm : Nat → Int64} {Em : Int32} {Lf Tr nu ne : Nat → Int64} {ct : Int32} (hx0 : xAt cJ cS ws b A N sf K B E Km Bm Em Lf Tr nu ne ct) (hN1 : 1 ≤ N) (hN5 : N ≤ 5) (hEm : Em = 0 ∨ Em = 1) {x : Int32} : vx_Met l y_X_all w_X_all ({ frames := 7, cells := 1, slots := 6, locals := 110 } : Room) (gx_Pc D classes (gT cJ cI cZ cS) [.ref (A 0), .int x] ws sz base) (va_Qv (fun w => okS x ∧ ∃ k, k < 8 ∧ x = nI k ∧ xAt cJ cS w b A N sf (va_up K k (lr_all (K k) (2 * N))) (va_up B k (lr_allB (B k) (2 * N))) (va_up E k (nI 0)) Km Bm Em Lf Tr nu ne ct ∧ gF b (b + 53) ws w) (gw_B D classes (gT cJ cI cZ cS) ws sz) (va_A ws sz)) (gX D classes (gT cJ cI cZ cS) ws sz (fun Z w => Z = xIOOB ∧ ¬ (okS x) ∧ w = ws)) 1 6 (va_A ws sz) := by
  refine gx_head (by decide) (Nat.le_of_ble_eq_true rfl) (fun p e s m below meth c hsz hx hb hr hlocks hml hown hnm hts hK hN hP hD hS hA hB hE hno ls hl => ?_)
  have hown : s.vm.findClass R_X = some m.cls := hown
  have hT : ∀ w ∈ wG, w ∈ Cond.code y_X_all b_X_all 2 none :: wG := gd_t _
  have hF : CallFix p m c b_X_all 2 s ([.ref (A 0), .int x] : List Value).toArray (Cond.code y_X_all b_X_all 2 none :: wG) R_X := ⟨hx, hb, hml, hown, hts⟩
  have hl : lv_has ls 2 [(0, .ref (A 0)), (1, .int x)] := hl
  obtain ⟨x0, x1, hsf, hX, ⟨s0, ⟨sko, skc⟩, ⟨sbo, sbc⟩⟩, ⟨lo, lc⟩, ⟨to, tc⟩, xn, xr⟩ := hx0
  have hn : 2 * N ≤ 10 := by omega
  have he : 2 * N % 2 = 0 := by omega
  have hfr : gF b (b + 53) ws ws := gF.rf
  refine lv_iload_n hx hb d_X_all_0 rfl (lv_at hl 1 rfl) ?_
  refine gx_cv0 (gxc_X_58 (As := [.int x]) (rest := []) hF hT (c_X_checkShape hlt) ⟨(Nat.le_of_ble_eq_true rfl), (Nat.le_of_ble_eq_true rfl)⟩ rfl rfl (gx_pre hK hN hP hD hS hB hA hE) rfl hl.1 rfl (Nat.le_of_ble_eq_true rfl) d_X_all_1 ⟨(Nat.le_of_ble_eq_true rfl), (Nat.le_of_ble_eq_true rfl)⟩) hK hD hS hA hno hlocks (Nat.le_of_ble_eq_true rfl) (Nat.le_of_ble_eq_true rfl) (fun Z u q => by obtain ⟨q1, q2, q3⟩ := q; exact ⟨q1, q2, q3⟩) (fun H locs h1 hP hD hS => ?_)
  obtain ⟨k, hk, rfl⟩ := h1.k
  refine lv_aload_n hx hb d_X_all_4 rfl (lv_at hl 0 rfl) ?_
  refine gf_X_27 hF hT hK hP x0 rfl d_X_all_5 ?_
  refine lv_iload_n hx hb d_X_all_8 rfl (lv_at hl 1 rfl) ?_
  refine g_aald (t0 := 3) (k := k) hx hb hK hP x1 rfl (by omega) (by decide) (hsf k (by omega)) d_X_all_9 ?_
  refine gw_cv (gc_X_61 (As := []) (rest := []) hF hT (c_S_becomeAll (hX k (by omega)).1 hn he) ⟨(Nat.le_of_ble_eq_true rfl), (Nat.le_of_ble_eq_true rfl)⟩ rfl rfl hK hN hP hD (hX k (by omega)).1.1 rfl hl.1 rfl (Nat.le_of_ble_eq_true rfl) d_X_all_10 ⟨(Nat.le_of_ble_eq_true rfl), (Nat.le_of_ble_eq_true rfl)⟩) hD hS hA (fun w H locs hw hP hD hS => ?_)
  obtain ⟨hsh, hf⟩ := hw
  have hX := hX.upd hf hsh (Or.inl nI_0)
  have x0 := hf.at x0 (by omega)
  have x1 := hf.at x1 (by omega)
  have s0 := hf.at s0 (by omega)
  have sko := hf.at sko (by omega)
  have skc := hf.at skc (by omega)
  have sbo := hf.at sbo (by omega)
  have sbc := hf.at sbc (by omega)
  have lo := hf.at lo (by omega)
  have lc := hf.at lc (by omega)
  have to := hf.at to (by omega)
  have tc := hf.at tc (by omega)
  have xn := hf.at xn (by omega)
  have xr := hf.at xr (by omega)
  have hfr := hfr.in hf (by omega) (by omega)
  exact vx_ret (gw_vret hx hb hr hlocks hK hP hD hS (Nat.le_of_ble_eq_true rfl) (Nat.le_of_ble_eq_true rfl) d_X_all_13 ⟨h1, k, hk, rfl, ⟨x0, x1, hsf, hX, ⟨s0, ⟨sko, skc⟩, ⟨sbo, sbc⟩⟩, ⟨lo, lc⟩, ⟨to, tc⟩, xn, xr⟩, hfr⟩)

set_option maxHeartbeats 4000000 in
set_option maxRecDepth 100000 in
theorem c_X_copy {l : Launch} (hlt : l.stackTraces = false) {D : va_G} {cJ cI cZ cS : ClassId} {ws : va_W} {sz base : Nat} {b N : Nat} {A : Nat → Nat} {sf : Nat → Option Nat} {K B : Nat → Nat → Int64} {E : Nat → Int32} {Km Bm : Nat → Int64} {Em : Int32} {Lf Tr nu ne : Nat → Int64} {ct : Int32} (hx0 : xAt cJ cS ws b A N sf K B E Km Bm Em Lf Tr nu ne ct) (hN1 : 1 ≤ N) (hN5 : N ≤ 5) (hEm : Em = 0 ∨ Em = 1) {x y : Int32} : vx_Met l y_X_copy w_X_copy ({ frames := 7, cells := 2, slots := 12, locals := 110 } : Room) (gx_Pc D classes (gT cJ cI cZ cS) [.ref (A 0), .int x, .int y] ws sz base) (va_Qv (fun w => (okS x ∧ okS y) ∧ ∃ k, k < 8 ∧ x = nI k ∧ ∃ k2, k2 < 8 ∧ y = nI k2 ∧ xAt cJ cS w b A N sf (va_up K k (lr_copy (K k2) (K k) (2 * N * (2 * N)))) (va_up B k (lr_copy (B k2) (B k) (2 * N * (2 * N)))) (va_up E k (E k2)) Km Bm Em Lf Tr nu ne ct ∧ gF b (b + 53) ws w) (gw_B D classes (gT cJ cI cZ cS) ws sz) (va_A ws sz)) (gX D classes (gT cJ cI cZ cS) ws sz (fun Z w => Z = xIOOB ∧ ¬ (okS x ∧ okS y) ∧ w = ws)) 2 12 (va_A ws sz) := by
  refine gx_head (by decide) (Nat.le_of_ble_eq_true rfl) (fun p e s m below meth c hsz hx hb hr hlocks hml hown hnm hts hK hN hP hD hS hA hB hE hno ls hl => ?_)
  have hown : s.vm.findClass R_X = some m.cls := hown
  have hT : ∀ w ∈ wG, w ∈ Cond.code y_X_copy b_X_copy 3 none :: wG := gd_t _
  have hF : CallFix p m c b_X_copy 3 s ([.ref (A 0), .int x, .int y] : List Value).toArray (Cond.code y_X_copy b_X_copy 3 none :: wG) R_X := ⟨hx, hb, hml, hown, hts⟩
  have hl : lv_has ls 3 [(0, .ref (A 0)), (1, .int x), (2, .int y)] := hl
  obtain ⟨x0, x1, hsf, hX, ⟨s0, ⟨sko, skc⟩, ⟨sbo, sbc⟩⟩, ⟨lo, lc⟩, ⟨to, tc⟩, xn, xr⟩ := hx0
  have hn : 2 * N ≤ 10 := by omega
  have he : 2 * N % 2 = 0 := by omega
  have hfr : gF b (b + 53) ws ws := gF.rf
  refine lv_iload_n hx hb d_X_copy_0 rfl (lv_at hl 1 rfl) ?_
  refine gx_cv0 (gxc_X_58 (As := [.int x]) (rest := []) hF hT (c_X_checkShape hlt) ⟨(Nat.le_of_ble_eq_true rfl), (Nat.le_of_ble_eq_true rfl)⟩ rfl rfl (gx_pre hK hN hP hD hS hB hA hE) rfl hl.1 rfl (Nat.le_of_ble_eq_true rfl) d_X_copy_1 ⟨(Nat.le_of_ble_eq_true rfl), (Nat.le_of_ble_eq_true rfl)⟩) hK hD hS hA hno hlocks (Nat.le_of_ble_eq_true rfl) (Nat.le_of_ble_eq_true rfl) (fun Z u q => by obtain ⟨q1, q2, q3⟩ := q; exact ⟨q1, fun q => q2 q.1, q3⟩) (fun H locs h1 hP hD hS => ?_)
  obtain ⟨k, hk, rfl⟩ := h1.k
  refine lv_iload_n hx hb d_X_copy_4 rfl (lv_at hl 2 rfl) ?_
  refine gx_cv0 (gxc_X_58 (As := [.int y]) (rest := []) hF hT (c_X_checkShape hlt) ⟨(Nat.le_of_ble_eq_true rfl), (Nat.le_of_ble_eq_true rfl)⟩ rfl rfl (gx_pre hK hN hP hD hS hB hA hE) rfl hl.1 rfl (Nat.le_of_ble_eq_true rfl) d_X_copy_5 ⟨(Nat.le_of_ble_eq_true rfl), (Nat.le_of_ble_eq_true rfl)⟩) hK hD hS hA hno hlocks (Nat.le_of_ble_eq_true rfl) (Nat.le_of_ble_eq_true rfl) (fun Z u q => by obtain ⟨q1, q2, q3⟩ := q; exact ⟨q1, fun q => q2 q.2, q3⟩) (fun H locs h2 hP hD hS => ?_)
  obtain ⟨k2, hk2, rfl⟩ := h2.k
  refine lv_aload_n hx hb d_X_copy_8 rfl (lv_at hl 0 rfl) ?_
  refine gf_X_27 hF hT hK hP x0 rfl d_X_copy_9 ?_
  refine lv_iload_n hx hb d_X_copy_12 rfl (lv_at hl 1 rfl) ?_
  refine g_aald (t0 := 3) (k := k) hx hb hK hP x1 rfl (by omega) (by decide) (hsf k (by omega)) d_X_copy_13 ?_
  refine lv_aload_n hx hb d_X_copy_14 rfl (lv_at hl 0 rfl) ?_
  refine gf_X_27 hF hT hK hP x0 rfl d_X_copy_15 ?_
  refine lv_iload_n hx hb d_X_copy_18 rfl (lv_at hl 2 rfl) ?_
  refine g_aald (t0 := 3) (k := k2) hx hb hK hP x1 rfl (by omega) (by decide) (hsf k2 (by omega)) d_X_copy_19 ?_
  by_cases hkk : k = k2
  · subst hkk
    refine gw_cv (gc_X_71 (As := [.ref (xsh A k 0)]) (rest := []) hF hT (c_S_becomeLike_s (hX k (by omega)).1 hn he (hX k (by omega)).2) ⟨(Nat.le_of_ble_eq_true rfl), (Nat.le_of_ble_eq_true rfl)⟩ rfl rfl hK hN hP hD (hX k (by omega)).1.1 rfl hl.1 rfl (Nat.le_of_ble_eq_true rfl) d_X_copy_20 ⟨(Nat.le_of_ble_eq_true rfl), (Nat.le_of_ble_eq_true rfl)⟩) hD hS hA (fun w H locs hw hP hD hS => ?_)
    obtain ⟨hsh, hf⟩ := hw
    have hX := hX.upd hf hsh (hX k (by omega)).2
    have x0 := hf.at x0 (by omega)
    have x1 := hf.at x1 (by omega)
    have s0 := hf.at s0 (by omega)
    have sko := hf.at sko (by omega)
    have skc := hf.at skc (by omega)
    have sbo := hf.at sbo (by omega)
    have sbc := hf.at sbc (by omega)
    have lo := hf.at lo (by omega)
    have lc := hf.at lc (by omega)
    have to := hf.at to (by omega)
    have tc := hf.at tc (by omega)
    have xn := hf.at xn (by omega)
    have xr := hf.at xr (by omega)
    have hfr := hfr.in hf (by omega) (by omega)
    exact vx_ret (gw_vret hx hb hr hlocks hK hP hD hS (Nat.le_of_ble_eq_true rfl) (Nat.le_of_ble_eq_true rfl) d_X_copy_23 ⟨⟨h1, h2⟩, k, hk, rfl, _, by omega, rfl, ⟨x0, x1, hsf, hX, ⟨s0, ⟨sko, skc⟩, ⟨sbo, sbc⟩⟩, ⟨lo, lc⟩, ⟨to, tc⟩, xn, xr⟩, hfr⟩)
  · refine gw_cv (gc_X_71 (As := [.ref (xsh A k2 0)]) (rest := []) hF hT (c_S_becomeLike (hX k (by omega)).1 hn he (hX k2 (by omega)).1 (hX k2 (by omega)).2 (by omega)) ⟨(Nat.le_of_ble_eq_true rfl), (Nat.le_of_ble_eq_true rfl)⟩ rfl rfl hK hN hP hD (hX k (by omega)).1.1 rfl hl.1 rfl (Nat.le_of_ble_eq_true rfl) d_X_copy_20 ⟨(Nat.le_of_ble_eq_true rfl), (Nat.le_of_ble_eq_true rfl)⟩) hD hS hA (fun w H locs hw hP hD hS => ?_)
    obtain ⟨hsh, hf⟩ := hw
    have hX := hX.upd hf hsh (hX k2 (by omega)).2
    have x0 := hf.at x0 (by omega)
    have x1 := hf.at x1 (by omega)
    have s0 := hf.at s0 (by omega)
    have sko := hf.at sko (by omega)
    have skc := hf.at skc (by omega)
    have sbo := hf.at sbo (by omega)
    have sbc := hf.at sbc (by omega)
    have lo := hf.at lo (by omega)
    have lc := hf.at lc (by omega)
    have to := hf.at to (by omega)
    have tc := hf.at tc (by omega)
    have xn := hf.at xn (by omega)
    have xr := hf.at xr (by omega)
    have hfr := hfr.in hf (by omega) (by omega)
    exact vx_ret (gw_vret hx hb hr hlocks hK hP hD hS (Nat.le_of_ble_eq_true rfl) (Nat.le_of_ble_eq_true rfl) d_X_copy_23 ⟨⟨h1, h2⟩, k, hk, rfl, _, by omega, rfl, ⟨x0, x1, hsf, hX, ⟨s0, ⟨sko, skc⟩, ⟨sbo, sbc⟩⟩, ⟨lo, lc⟩, ⟨to, tc⟩, xn, xr⟩, hfr⟩)

set_option maxHeartbeats 4000000 in
set_option maxRecDepth 100000 in
theorem c_X_bound {l : Launch} (hlt : l.stackTraces = false) {D : va_G} {cJ cI cZ cS : ClassId} {ws : va_W} {sz base : Nat} {b N : Nat} {A : Nat → Nat} {sf : Nat → Option Nat} {K B : Nat → Nat → Int64} {E : Nat → Int32} {Km Bm : Nat → Int64} {Em : Int32} {Lf Tr nu ne : Nat → Int64} {ct : Int32} (hx0 : xAt cJ cS ws b A N sf K B E Km Bm Em Lf Tr nu ne ct) (hN1 : 1 ≤ N) (hN5 : N ≤ 5) {x y z : Int32} : vx_Met l y_X_bound w_X_bound ({ frames := 7, cells := 3, slots := 18, locals := 111 } : Room) (gx_Pc D classes (gT cJ cI cZ cS) [.ref (A 0), .int x, .int y, .int z] ws sz base) (va_Ql (fun r w => ((okS x ∧ okT N y ∧ okT N z) ∧ ∃ k, k < 8 ∧ x = nI k ∧ r = lr_gr (B k) (2 * N) (E k) y z) ∧ w = ws) (gw_B D classes (gT cJ cI cZ cS) ws sz) (va_A ws sz)) (gX D classes (gT cJ cI cZ cS) ws sz (fun Z w => Z = xIOOB ∧ ¬ (okS x ∧ okT N y ∧ okT N z) ∧ w = ws)) 3 18 (va_A ws sz) := by
  refine gx_head (by decide) (Nat.le_of_ble_eq_true rfl) (fun p e s m below meth c hsz hx hb hr hlocks hml hown hnm hts hK hN hP hD hS hA hB hE hno ls hl => ?_)
  have hown : s.vm.findClass R_X = some m.cls := hown
  have hT : ∀ w ∈ wG, w ∈ Cond.code y_X_bound b_X_bound 4 (some .long) :: wG := gd_t _
  have hF : CallFix p m c b_X_bound 4 s ([.ref (A 0), .int x, .int y, .int z] : List Value).toArray (Cond.code y_X_bound b_X_bound 4 (some .long) :: wG) R_X := ⟨hx, hb, hml, hown, hts⟩
  have hl : lv_has ls 4 [(0, .ref (A 0)), (1, .int x), (2, .int y), (3, .int z)] := hl
  obtain ⟨x0, x1, hsf, hX, ⟨s0, ⟨sko, skc⟩, ⟨sbo, sbc⟩⟩, ⟨lo, lc⟩, ⟨to, tc⟩, xn, xr⟩ := hx0
  have hn : 2 * N ≤ 10 := by omega
  have he : 2 * N % 2 = 0 := by omega
  refine lv_iload_n hx hb d_X_bound_0 rfl (lv_at hl 1 rfl) ?_
  refine gx_cv0 (gxc_X_58 (As := [.int x]) (rest := []) hF hT (c_X_checkShape hlt) ⟨(Nat.le_of_ble_eq_true rfl), (Nat.le_of_ble_eq_true rfl)⟩ rfl rfl (gx_pre hK hN hP hD hS hB hA hE) rfl hl.1 rfl (Nat.le_of_ble_eq_true rfl) d_X_bound_1 ⟨(Nat.le_of_ble_eq_true rfl), (Nat.le_of_ble_eq_true rfl)⟩) hK hD hS hA hno hlocks (Nat.le_of_ble_eq_true rfl) (Nat.le_of_ble_eq_true rfl) (fun Z u q => by obtain ⟨q1, q2, q3⟩ := q; exact ⟨q1, fun q => q2 q.1, q3⟩) (fun H locs h1 hP hD hS => ?_)
  obtain ⟨k, hk, rfl⟩ := h1.k
  refine lv_aload_n hx hb d_X_bound_4 rfl (lv_at hl 0 rfl) ?_
  refine lv_iload_n hx hb d_X_bound_5 rfl (lv_at hl 2 rfl) ?_
  refine gx_cv0 (gxc_X_64 (As := [.int y]) (rest := []) hF hT (c_X_checkTerm hlt ⟨x0, x1, hsf, hX, ⟨s0, ⟨sko, skc⟩, ⟨sbo, sbc⟩⟩, ⟨lo, lc⟩, ⟨to, tc⟩, xn, xr⟩ hN1 hN5) ⟨(Nat.le_of_ble_eq_true rfl), (Nat.le_of_ble_eq_true rfl)⟩ rfl rfl (gx_pre hK hN hP hD hS hB hA hE) hK hP x0 rfl hl.1 rfl (Nat.le_of_ble_eq_true rfl) d_X_bound_6 ⟨(Nat.le_of_ble_eq_true rfl), (Nat.le_of_ble_eq_true rfl)⟩) hK hD hS hA hno hlocks (Nat.le_of_ble_eq_true rfl) (Nat.le_of_ble_eq_true rfl) (fun Z u q => by obtain ⟨q1, q2, q3⟩ := q; exact ⟨q1, fun q => q2 q.2.1, q3⟩) (fun H locs h2 hP hD hS => ?_)
  refine lv_aload_n hx hb d_X_bound_9 rfl (lv_at hl 0 rfl) ?_
  refine lv_iload_n hx hb d_X_bound_10 rfl (lv_at hl 3 rfl) ?_
  refine gx_cv0 (gxc_X_64 (As := [.int z]) (rest := []) hF hT (c_X_checkTerm hlt ⟨x0, x1, hsf, hX, ⟨s0, ⟨sko, skc⟩, ⟨sbo, sbc⟩⟩, ⟨lo, lc⟩, ⟨to, tc⟩, xn, xr⟩ hN1 hN5) ⟨(Nat.le_of_ble_eq_true rfl), (Nat.le_of_ble_eq_true rfl)⟩ rfl rfl (gx_pre hK hN hP hD hS hB hA hE) hK hP x0 rfl hl.1 rfl (Nat.le_of_ble_eq_true rfl) d_X_bound_11 ⟨(Nat.le_of_ble_eq_true rfl), (Nat.le_of_ble_eq_true rfl)⟩) hK hD hS hA hno hlocks (Nat.le_of_ble_eq_true rfl) (Nat.le_of_ble_eq_true rfl) (fun Z u q => by obtain ⟨q1, q2, q3⟩ := q; exact ⟨q1, fun q => q2 q.2.2, q3⟩) (fun H locs h3 hP hD hS => ?_)
  refine lv_aload_n hx hb d_X_bound_14 rfl (lv_at hl 0 rfl) ?_
  refine gf_X_27 hF hT hK hP x0 rfl d_X_bound_15 ?_
  refine lv_iload_n hx hb d_X_bound_18 rfl (lv_at hl 1 rfl) ?_
  refine g_aald (t0 := 3) (k := k) hx hb hK hP x1 rfl (by omega) (by decide) (hsf k (by omega)) d_X_bound_19 ?_
  refine lv_iload_n hx hb d_X_bound_20 rfl (lv_at hl 2 rfl) ?_
  refine lv_iload_n hx hb d_X_bound_21 rfl (lv_at hl 3 rfl) ?_
  refine gw_cl0 (gc_X_83 (As := [.int y, .int z]) (rest := []) hF hT (c_S_greatest (hX k (by omega)).1 hn he (h2.tm hN5) (h3.tm hN5)) ⟨(Nat.le_of_ble_eq_true rfl), (Nat.le_of_ble_eq_true rfl)⟩ rfl rfl hK hN hP hD (hX k (by omega)).1.1 rfl hl.1 rfl (Nat.le_of_ble_eq_true rfl) d_X_bound_22 ⟨(Nat.le_of_ble_eq_true rfl), (Nat.le_of_ble_eq_true rfl)⟩) hD hS hA (fun r1 H locs e_r1 hP hD hS => ?_)
  subst e_r1
  exact vx_ret (gw_lret hx hb hr hlocks hK hP hD hS (Nat.le_of_ble_eq_true rfl) (Nat.le_of_ble_eq_true rfl) d_X_bound_25 ⟨⟨⟨h1, h2, h3⟩, k, hk, rfl, rfl⟩, rfl⟩)

set_option maxHeartbeats 4000000 in
set_option maxRecDepth 100000 in
theorem c_X_kept {l : Launch} (hlt : l.stackTraces = false) {D : va_G} {cJ cI cZ cS : ClassId} {ws : va_W} {sz base : Nat} {b N : Nat} {A : Nat → Nat} {sf : Nat → Option Nat} {K B : Nat → Nat → Int64} {E : Nat → Int32} {Km Bm : Nat → Int64} {Em : Int32} {Lf Tr nu ne : Nat → Int64} {ct : Int32} (hx0 : xAt cJ cS ws b A N sf K B E Km Bm Em Lf Tr nu ne ct) (hN1 : 1 ≤ N) (hN5 : N ≤ 5) {x y z : Int32} : vx_Met l y_X_kept w_X_kept ({ frames := 7, cells := 3, slots := 18, locals := 111 } : Room) (gx_Pc D classes (gT cJ cI cZ cS) [.ref (A 0), .int x, .int y, .int z] ws sz base) (va_Ql (fun r w => ((okS x ∧ okT N y ∧ okT N z) ∧ ∃ k, k < 8 ∧ x = nI k ∧ ((y = z ∨ y = -z) ∧ r = lr_E ∨ (¬ (y = z ∨ y = -z) ∧ r = lr_ofT (K k) (2 * N) y z))) ∧ w = ws) (gw_B D classes (gT cJ cI cZ cS) ws sz) (va_A ws sz)) (gX D classes (gT cJ cI cZ cS) ws sz (fun Z w => Z = xIOOB ∧ ¬ (okS x ∧ okT N y ∧ okT N z) ∧ w = ws)) 3 18 (va_A ws sz) := by
  refine gx_head (by decide) (Nat.le_of_ble_eq_true rfl) (fun p e s m below meth c hsz hx hb hr hlocks hml hown hnm hts hK hN hP hD hS hA hB hE hno ls hl => ?_)
  have hown : s.vm.findClass R_X = some m.cls := hown
  have hT : ∀ w ∈ wG, w ∈ Cond.code y_X_kept b_X_kept 4 (some .long) :: wG := gd_t _
  have hF : CallFix p m c b_X_kept 4 s ([.ref (A 0), .int x, .int y, .int z] : List Value).toArray (Cond.code y_X_kept b_X_kept 4 (some .long) :: wG) R_X := ⟨hx, hb, hml, hown, hts⟩
  have hl : lv_has ls 4 [(0, .ref (A 0)), (1, .int x), (2, .int y), (3, .int z)] := hl
  obtain ⟨x0, x1, hsf, hX, ⟨s0, ⟨sko, skc⟩, ⟨sbo, sbc⟩⟩, ⟨lo, lc⟩, ⟨to, tc⟩, xn, xr⟩ := hx0
  have hn : 2 * N ≤ 10 := by omega
  have he : 2 * N % 2 = 0 := by omega
  refine lv_iload_n hx hb d_X_kept_0 rfl (lv_at hl 1 rfl) ?_
  refine gx_cv0 (gxc_X_58 (As := [.int x]) (rest := []) hF hT (c_X_checkShape hlt) ⟨(Nat.le_of_ble_eq_true rfl), (Nat.le_of_ble_eq_true rfl)⟩ rfl rfl (gx_pre hK hN hP hD hS hB hA hE) rfl hl.1 rfl (Nat.le_of_ble_eq_true rfl) d_X_kept_1 ⟨(Nat.le_of_ble_eq_true rfl), (Nat.le_of_ble_eq_true rfl)⟩) hK hD hS hA hno hlocks (Nat.le_of_ble_eq_true rfl) (Nat.le_of_ble_eq_true rfl) (fun Z u q => by obtain ⟨q1, q2, q3⟩ := q; exact ⟨q1, fun q => q2 q.1, q3⟩) (fun H locs h1 hP hD hS => ?_)
  obtain ⟨k, hk, rfl⟩ := h1.k
  refine lv_aload_n hx hb d_X_kept_4 rfl (lv_at hl 0 rfl) ?_
  refine lv_iload_n hx hb d_X_kept_5 rfl (lv_at hl 2 rfl) ?_
  refine gx_cv0 (gxc_X_64 (As := [.int y]) (rest := []) hF hT (c_X_checkTerm hlt ⟨x0, x1, hsf, hX, ⟨s0, ⟨sko, skc⟩, ⟨sbo, sbc⟩⟩, ⟨lo, lc⟩, ⟨to, tc⟩, xn, xr⟩ hN1 hN5) ⟨(Nat.le_of_ble_eq_true rfl), (Nat.le_of_ble_eq_true rfl)⟩ rfl rfl (gx_pre hK hN hP hD hS hB hA hE) hK hP x0 rfl hl.1 rfl (Nat.le_of_ble_eq_true rfl) d_X_kept_6 ⟨(Nat.le_of_ble_eq_true rfl), (Nat.le_of_ble_eq_true rfl)⟩) hK hD hS hA hno hlocks (Nat.le_of_ble_eq_true rfl) (Nat.le_of_ble_eq_true rfl) (fun Z u q => by obtain ⟨q1, q2, q3⟩ := q; exact ⟨q1, fun q => q2 q.2.1, q3⟩) (fun H locs h2 hP hD hS => ?_)
  refine lv_aload_n hx hb d_X_kept_9 rfl (lv_at hl 0 rfl) ?_
  refine lv_iload_n hx hb d_X_kept_10 rfl (lv_at hl 3 rfl) ?_
  refine gx_cv0 (gxc_X_64 (As := [.int z]) (rest := []) hF hT (c_X_checkTerm hlt ⟨x0, x1, hsf, hX, ⟨s0, ⟨sko, skc⟩, ⟨sbo, sbc⟩⟩, ⟨lo, lc⟩, ⟨to, tc⟩, xn, xr⟩ hN1 hN5) ⟨(Nat.le_of_ble_eq_true rfl), (Nat.le_of_ble_eq_true rfl)⟩ rfl rfl (gx_pre hK hN hP hD hS hB hA hE) hK hP x0 rfl hl.1 rfl (Nat.le_of_ble_eq_true rfl) d_X_kept_11 ⟨(Nat.le_of_ble_eq_true rfl), (Nat.le_of_ble_eq_true rfl)⟩) hK hD hS hA hno hlocks (Nat.le_of_ble_eq_true rfl) (Nat.le_of_ble_eq_true rfl) (fun Z u q => by obtain ⟨q1, q2, q3⟩ := q; exact ⟨q1, fun q => q2 q.2.2, q3⟩) (fun H locs h3 hP hD hS => ?_)
  refine lv_iload_n hx hb d_X_kept_14 rfl (lv_at hl 2 rfl) ?_
  refine lv_iload_n hx hb d_X_kept_15 rfl (lv_at hl 3 rfl) ?_
  refine lv_icmp_eq (tgt := 25) hx hb d_X_kept_16 (by decide) (fun c1 => ?_) (fun c1 => ?_)
  · refine lv_ldc2 (v := lr_E) hx hb hown (hts _ (hT _ wm_2_61)) d_X_kept_25 ?_
    exact vx_ret (gw_lret hx hb hr hlocks hK hP hD hS (Nat.le_of_ble_eq_true rfl) (Nat.le_of_ble_eq_true rfl) d_X_kept_28 ⟨⟨⟨h1, h2, h3⟩, k, hk, rfl, Or.inl ⟨Or.inl c1, rfl⟩⟩, rfl⟩)
  · refine lv_iload_n hx hb d_X_kept_19 rfl (lv_at hl 2 rfl) ?_
    refine lv_iload_n hx hb d_X_kept_20 rfl (lv_at hl 3 rfl) ?_
    refine lv_ineg hx hb d_X_kept_21 ?_
    refine lv_icmp_ne (tgt := 29) hx hb d_X_kept_22 (by decide) (fun c2 => ?_) (fun c2 => ?_)
    · refine lv_aload_n hx hb d_X_kept_29 rfl (lv_at hl 0 rfl) ?_
      refine gf_X_27 hF hT hK hP x0 rfl d_X_kept_30 ?_
      refine lv_iload_n hx hb d_X_kept_33 rfl (lv_at hl 1 rfl) ?_
      refine g_aald (t0 := 3) (k := k) hx hb hK hP x1 rfl (by omega) (by decide) (hsf k (by omega)) d_X_kept_34 ?_
      refine gf_X_89 hF hT hN hK hP (hX k (by omega)).1.1 rfl d_X_kept_35 ?_
      refine lv_iload_n hx hb d_X_kept_38 rfl (lv_at hl 2 rfl) ?_
      refine lv_iload_n hx hb d_X_kept_39 rfl (lv_at hl 3 rfl) ?_
      refine gw_cl0 (gc_X_92 (As := [.int y, .int z]) (rest := []) hF hT (c_T_ofTerms (hX k (by omega)).1.2.1 hn (h2.tm hN5).1 (h3.tm hN5).1 (fun q => c1 (q.1.trans q.2.symm)) (h2.tm hN5).2 (h3.tm hN5).2) ⟨(Nat.le_of_ble_eq_true rfl), (Nat.le_of_ble_eq_true rfl)⟩ rfl rfl hK hN hP hD (hX k (by omega)).1.2.1.1 rfl hl.1 rfl (Nat.le_of_ble_eq_true rfl) d_X_kept_40 ⟨(Nat.le_of_ble_eq_true rfl), (Nat.le_of_ble_eq_true rfl)⟩) hD hS hA (fun r3 H locs e_r3 hP hD hS => ?_)
      subst e_r3
      exact vx_ret (gw_lret hx hb hr hlocks hK hP hD hS (Nat.le_of_ble_eq_true rfl) (Nat.le_of_ble_eq_true rfl) d_X_kept_43 ⟨⟨⟨h1, h2, h3⟩, k, hk, rfl, Or.inr ⟨fun q => q.elim c1 c2, rfl⟩⟩, rfl⟩)
    · refine lv_ldc2 (v := lr_E) hx hb hown (hts _ (hT _ wm_2_61)) d_X_kept_25 ?_
      exact vx_ret (gw_lret hx hb hr hlocks hK hP hD hS (Nat.le_of_ble_eq_true rfl) (Nat.le_of_ble_eq_true rfl) d_X_kept_28 ⟨⟨⟨h1, h2, h3⟩, k, hk, rfl, Or.inl ⟨Or.inr c2, rfl⟩⟩, rfl⟩)

set_option maxHeartbeats 4000000 in
set_option maxRecDepth 100000 in
theorem c_X_within {l : Launch} (hlt : l.stackTraces = false) {D : va_G} {cJ cI cZ cS : ClassId} {ws : va_W} {sz base : Nat} {b N : Nat} {A : Nat → Nat} {sf : Nat → Option Nat} {K B : Nat → Nat → Int64} {E : Nat → Int32} {Km Bm : Nat → Int64} {Em : Int32} {Lf Tr nu ne : Nat → Int64} {ct : Int32} (hx0 : xAt cJ cS ws b A N sf K B E Km Bm Em Lf Tr nu ne ct) (hN1 : 1 ≤ N) (hN5 : N ≤ 5) {x y : Int32} : vx_Met l y_X_within w_X_within ({ frames := 7, cells := 2, slots := 12, locals := 110 } : Room) (gx_Pc D classes (gT cJ cI cZ cS) [.ref (A 0), .int x, .int y] ws sz base) (va_Qi (fun r w => ((okS x ∧ okS y) ∧ ∃ k, k < 8 ∧ x = nI k ∧ ∃ k2, k2 < 8 ∧ y = nI k2 ∧ ((¬ E k = 0 ∧ r = nI 1) ∨ (E k = 0 ∧ ¬ E k2 = 0 ∧ r = nI 0) ∨ (E k = 0 ∧ E k2 = 0 ∧ ((r = nI 1 ∧ ∀ i, i < 2 * N → ∀ t, t < 2 * N - i → B k (i * (2 * N) + (i + t)) ≤ B k2 (i * (2 * N) + (i + t))) ∨ (r = nI 0 ∧ ¬ ∀ i, i < 2 * N → ∀ t, t < 2 * N - i → B k (i * (2 * N) + (i + t)) ≤ B k2 (i * (2 * N) + (i + t))))))) ∧ w = ws) (gw_B D classes (gT cJ cI cZ cS) ws sz) (va_A ws sz)) (gX D classes (gT cJ cI cZ cS) ws sz (fun Z w => Z = xIOOB ∧ ¬ (okS x ∧ okS y) ∧ w = ws)) 2 12 (va_A ws sz) := by
  refine gx_head (by decide) (Nat.le_of_ble_eq_true rfl) (fun p e s m below meth c hsz hx hb hr hlocks hml hown hnm hts hK hN hP hD hS hA hB hE hno ls hl => ?_)
  have hown : s.vm.findClass R_X = some m.cls := hown
  have hT : ∀ w ∈ wG, w ∈ Cond.code y_X_within b_X_within 3 (some .boolean) :: wG := gd_t _
  have hF : CallFix p m c b_X_within 3 s ([.ref (A 0), .int x, .int y] : List Value).toArray (Cond.code y_X_within b_X_within 3 (some .boolean) :: wG) R_X := ⟨hx, hb, hml, hown, hts⟩
  have hl : lv_has ls 3 [(0, .ref (A 0)), (1, .int x), (2, .int y)] := hl
  obtain ⟨x0, x1, hsf, hX, ⟨s0, ⟨sko, skc⟩, ⟨sbo, sbc⟩⟩, ⟨lo, lc⟩, ⟨to, tc⟩, xn, xr⟩ := hx0
  have hn : 2 * N ≤ 10 := by omega
  have he : 2 * N % 2 = 0 := by omega
  refine lv_iload_n hx hb d_X_within_0 rfl (lv_at hl 1 rfl) ?_
  refine gx_cv0 (gxc_X_58 (As := [.int x]) (rest := []) hF hT (c_X_checkShape hlt) ⟨(Nat.le_of_ble_eq_true rfl), (Nat.le_of_ble_eq_true rfl)⟩ rfl rfl (gx_pre hK hN hP hD hS hB hA hE) rfl hl.1 rfl (Nat.le_of_ble_eq_true rfl) d_X_within_1 ⟨(Nat.le_of_ble_eq_true rfl), (Nat.le_of_ble_eq_true rfl)⟩) hK hD hS hA hno hlocks (Nat.le_of_ble_eq_true rfl) (Nat.le_of_ble_eq_true rfl) (fun Z u q => by obtain ⟨q1, q2, q3⟩ := q; exact ⟨q1, fun q => q2 q.1, q3⟩) (fun H locs h1 hP hD hS => ?_)
  obtain ⟨k, hk, rfl⟩ := h1.k
  refine lv_iload_n hx hb d_X_within_4 rfl (lv_at hl 2 rfl) ?_
  refine gx_cv0 (gxc_X_58 (As := [.int y]) (rest := []) hF hT (c_X_checkShape hlt) ⟨(Nat.le_of_ble_eq_true rfl), (Nat.le_of_ble_eq_true rfl)⟩ rfl rfl (gx_pre hK hN hP hD hS hB hA hE) rfl hl.1 rfl (Nat.le_of_ble_eq_true rfl) d_X_within_5 ⟨(Nat.le_of_ble_eq_true rfl), (Nat.le_of_ble_eq_true rfl)⟩) hK hD hS hA hno hlocks (Nat.le_of_ble_eq_true rfl) (Nat.le_of_ble_eq_true rfl) (fun Z u q => by obtain ⟨q1, q2, q3⟩ := q; exact ⟨q1, fun q => q2 q.2, q3⟩) (fun H locs h2 hP hD hS => ?_)
  obtain ⟨k2, hk2, rfl⟩ := h2.k
  refine lv_aload_n hx hb d_X_within_8 rfl (lv_at hl 0 rfl) ?_
  refine gf_X_27 hF hT hK hP x0 rfl d_X_within_9 ?_
  refine lv_iload_n hx hb d_X_within_12 rfl (lv_at hl 1 rfl) ?_
  refine g_aald (t0 := 3) (k := k) hx hb hK hP x1 rfl (by omega) (by decide) (hsf k (by omega)) d_X_within_13 ?_
  refine gf_X_123 hF hT hN hK hP (hX k (by omega)).1.1 rfl d_X_within_14 ?_
  refine lv_if_eq (tgt := 22) hx hb d_X_within_17 (by decide) (fun c1 => ?_) (fun c1 => ?_)
  · refine lv_aload_n hx hb d_X_within_22 rfl (lv_at hl 0 rfl) ?_
    refine gf_X_27 hF hT hK hP x0 rfl d_X_within_23 ?_
    refine lv_iload_n hx hb d_X_within_26 rfl (lv_at hl 2 rfl) ?_
    refine g_aald (t0 := 3) (k := k2) hx hb hK hP x1 rfl (by omega) (by decide) (hsf k2 (by omega)) d_X_within_27 ?_
    refine gf_X_123 hF hT hN hK hP (hX k2 (by omega)).1.1 rfl d_X_within_28 ?_
    refine lv_if_ne (tgt := 62) hx hb d_X_within_31 (by decide) (fun c2 => ?_) (fun c2 => ?_)
    · refine lv_iconst (v := nI 0) hx hb d_X_within_62 (by decide) ?_
      exact vx_ret (gw_zret hx hb hr hlocks hK hP hD hS (Nat.le_of_ble_eq_true rfl) (Nat.le_of_ble_eq_true rfl) rfl d_X_within_63 ⟨⟨⟨h1, h2⟩, k, hk, rfl, k2, hk2, rfl, Or.inr (Or.inl ⟨c1, c2, rfl⟩)⟩, rfl⟩)
    · refine lv_aload_n hx hb d_X_within_34 rfl (lv_at hl 0 rfl) ?_
      refine gf_X_27 hF hT hK hP x0 rfl d_X_within_35 ?_
      refine lv_iload_n hx hb d_X_within_38 rfl (lv_at hl 1 rfl) ?_
      refine g_aald (t0 := 3) (k := k) hx hb hK hP x1 rfl (by omega) (by decide) (hsf k (by omega)) d_X_within_39 ?_
      refine gf_X_127 hF hT hN hK hP (hX k (by omega)).1.1 rfl d_X_within_40 ?_
      refine lv_aload_n hx hb d_X_within_43 rfl (lv_at hl 0 rfl) ?_
      refine gf_X_27 hF hT hK hP x0 rfl d_X_within_44 ?_
      refine lv_iload_n hx hb d_X_within_47 rfl (lv_at hl 2 rfl) ?_
      refine g_aald (t0 := 3) (k := k2) hx hb hK hP x1 rfl (by omega) (by decide) (hsf k2 (by omega)) d_X_within_48 ?_
      refine gf_X_127 hF hT hN hK hP (hX k2 (by omega)).1.1 rfl d_X_within_49 ?_
      refine gw_ci0 (gc_X_130 (As := [.ref (xsh A k2 3)]) (rest := []) hF hT (c_T_isNowhereAbove (hX k (by omega)).1.2.2 hn (hX k2 (by omega)).1.2.2) ⟨(Nat.le_of_ble_eq_true rfl), (Nat.le_of_ble_eq_true rfl)⟩ rfl rfl hK hN hP hD (hX k (by omega)).1.2.2.1 rfl hl.1 rfl (Nat.le_of_ble_eq_true rfl) d_X_within_52 ⟨(Nat.le_of_ble_eq_true rfl), (Nat.le_of_ble_eq_true rfl)⟩) hD hS hA (fun r3 H locs h_r3 hP hD hS => ?_)
      refine lv_if_eq (tgt := 62) hx hb d_X_within_55 (by decide) (fun c4 => ?_) (fun c4 => ?_)
      · have hal := gb_t h_r3 c4
        refine lv_iconst (v := nI 0) hx hb d_X_within_62 (by decide) ?_
        exact vx_ret (gw_zret hx hb hr hlocks hK hP hD hS (Nat.le_of_ble_eq_true rfl) (Nat.le_of_ble_eq_true rfl) rfl d_X_within_63 ⟨⟨⟨h1, h2⟩, k, hk, rfl, k2, hk2, rfl, Or.inr (Or.inr ⟨c1, c2, Or.inr ⟨rfl, hal⟩⟩)⟩, rfl⟩)
      · have hal := gb_f h_r3 c4
        refine lv_iconst (v := nI 1) hx hb d_X_within_58 (by decide) ?_
        refine lv_goto (tgt := 63) hx hb d_X_within_59 (by decide) ?_
        exact vx_ret (gw_zret hx hb hr hlocks hK hP hD hS (Nat.le_of_ble_eq_true rfl) (Nat.le_of_ble_eq_true rfl) rfl d_X_within_63 ⟨⟨⟨h1, h2⟩, k, hk, rfl, k2, hk2, rfl, Or.inr (Or.inr ⟨c1, c2, Or.inl ⟨rfl, hal⟩⟩)⟩, rfl⟩)
  · refine lv_iconst (v := nI 1) hx hb d_X_within_20 (by decide) ?_
    exact vx_ret (gw_zret hx hb hr hlocks hK hP hD hS (Nat.le_of_ble_eq_true rfl) (Nat.le_of_ble_eq_true rfl) rfl d_X_within_21 ⟨⟨⟨h1, h2⟩, k, hk, rfl, k2, hk2, rfl, Or.inl ⟨c1, rfl⟩⟩, rfl⟩)

set_option maxHeartbeats 4000000 in
set_option maxRecDepth 100000 in
theorem c_X_put {l : Launch} (hlt : l.stackTraces = false) {D : va_G} {cJ cI cZ cS : ClassId} {ws : va_W} {sz base : Nat} {b N : Nat} {A : Nat → Nat} {sf : Nat → Option Nat} {K B : Nat → Nat → Int64} {E : Nat → Int32} {Km Bm : Nat → Int64} {Em : Int32} {Lf Tr nu ne : Nat → Int64} {ct : Int32} (hx0 : xAt cJ cS ws b A N sf K B E Km Bm Em Lf Tr nu ne ct) (hN1 : 1 ≤ N) (hN5 : N ≤ 5) (hEm : Em = 0 ∨ Em = 1) {x : Int32} {v : Int64} : vx_Met l y_X_put w_X_put ({ frames := 7, cells := 2, slots := 12, locals := 111 } : Room) (gx_Pc D classes (gT cJ cI cZ cS) [.ref (A 0), .int x, .long v] ws sz base) (va_Ql (fun r w => okN N x ∧ okG v ∧ ∃ k, 1 ≤ k ∧ k ≤ N ∧ x = nI k ∧ r = nu (k - 1) ∧ xAt cJ cS w b A N sf K B E Km Bm Em Lf Tr (vp_updL nu (k - 1) v) ne ct ∧ gF b (b + 53) ws w) (gw_B D classes (gT cJ cI cZ cS) ws sz) (va_A ws sz)) (gX D classes (gT cJ cI cZ cS) ws sz (fun Z w => (Z = xIOOB ∧ ¬ okN N x ∧ w = ws) ∨ (Z = xIAE ∧ okN N x ∧ ¬ okG v ∧ w = ws))) 2 12 (va_A ws sz) := by
  refine gx_head (by decide) (Nat.le_of_ble_eq_true rfl) (fun p e s m below meth c hsz hx hb hr hlocks hml hown hnm hts hK hN hP hD hS hA hB hE hno ls hl => ?_)
  have hown : s.vm.findClass R_X = some m.cls := hown
  have hT : ∀ w ∈ wG, w ∈ Cond.code y_X_put b_X_put 6 (some .long) :: wG := gd_t _
  have hF : CallFix p m c b_X_put 6 s ([.ref (A 0), .int x, .long v] : List Value).toArray (Cond.code y_X_put b_X_put 6 (some .long) :: wG) R_X := ⟨hx, hb, hml, hown, hts⟩
  have hl : lv_has ls 6 [(0, .ref (A 0)), (1, .int x), (2, .long v)] := hl
  obtain ⟨x0, x1, hsf, hX, ⟨s0, ⟨sko, skc⟩, ⟨sbo, sbc⟩⟩, ⟨lo, lc⟩, ⟨to, tc⟩, xn, xr⟩ := hx0
  have hn : 2 * N ≤ 10 := by omega
  have he : 2 * N % 2 = 0 := by omega
  have hfr : gF b (b + 53) ws ws := gF.rf
  refine lv_aload_n hx hb d_X_put_0 rfl (lv_at hl 0 rfl) ?_
  refine lv_iload_n hx hb d_X_put_1 rfl (lv_at hl 1 rfl) ?_
  refine gx_cv0 (gxc_X_112 (As := [.int x]) (rest := []) hF hT (c_X_checkName hlt ⟨x0, x1, hsf, hX, ⟨s0, ⟨sko, skc⟩, ⟨sbo, sbc⟩⟩, ⟨lo, lc⟩, ⟨to, tc⟩, xn, xr⟩ hN1 hN5) ⟨(Nat.le_of_ble_eq_true rfl), (Nat.le_of_ble_eq_true rfl)⟩ rfl rfl (gx_pre hK hN hP hD hS hB hA hE) hK hP x0 rfl hl.1 rfl (Nat.le_of_ble_eq_true rfl) d_X_put_2 ⟨(Nat.le_of_ble_eq_true rfl), (Nat.le_of_ble_eq_true rfl)⟩) hK hD hS hA hno hlocks (Nat.le_of_ble_eq_true rfl) (Nat.le_of_ble_eq_true rfl) (fun Z u q => by obtain ⟨q1, q2, q3⟩ := q; exact Or.inl ⟨q1, q2, q3⟩) (fun H locs h1 hP hD hS => ?_)
  obtain ⟨k, hk1, hk, rfl⟩ := h1.k hN5
  refine lv_lload_n hx hb d_X_put_5 rfl (lv_at hl 2 rfl) ?_
  refine gx_cv0 (gxc_X_67 (As := [.long v]) (rest := []) hF hT (c_X_checkGiven hlt) ⟨(Nat.le_of_ble_eq_true rfl), (Nat.le_of_ble_eq_true rfl)⟩ rfl rfl (gx_pre hK hN hP hD hS hB hA hE) rfl hl.1 rfl (Nat.le_of_ble_eq_true rfl) d_X_put_6 ⟨(Nat.le_of_ble_eq_true rfl), (Nat.le_of_ble_eq_true rfl)⟩) hK hD hS hA hno hlocks (Nat.le_of_ble_eq_true rfl) (Nat.le_of_ble_eq_true rfl) (fun Z u q => by obtain ⟨q1, q2, q3⟩ := q; exact Or.inr ⟨q1, h1, q2, q3⟩) (fun H locs h2 hP hD hS => ?_)
  refine lv_aload_n hx hb d_X_put_9 rfl (lv_at hl 0 rfl) ?_
  refine gf_X_48 hF hT hK hP x0 rfl d_X_put_10 ?_
  refine lv_iload_n hx hb d_X_put_13 rfl (lv_at hl 1 rfl) ?_
  refine lv_iconst (v := nI 1) hx hb d_X_put_14 (by decide) ?_
  refine lv_isub hx hb d_X_put_15 ?_
  refine gx_i (y := nI (k - 1)) (pk_sub (by omega)) ?_
  refine g_lald (t0 := 0) (k := k - 1) hx hb hK hP xn rfl (by omega) (by omega) d_X_put_16 ?_
  refine lv_lstore (lv' := [(4, .long (nu (k - 1))), (0, .ref (A 0)), (1, .int (nI k)), (2, .long v)]) hx hb d_X_put_17 hl (by decide) rfl (fun ls hl => ?_)
  refine lv_aload_n hx hb d_X_put_19 rfl (lv_at hl 1 rfl) ?_
  refine gf_X_48 hF hT hK hP x0 rfl d_X_put_20 ?_
  refine lv_iload_n hx hb d_X_put_23 rfl (lv_at hl 2 rfl) ?_
  refine lv_iconst (v := nI 1) hx hb d_X_put_24 (by decide) ?_
  refine lv_isub hx hb d_X_put_25 ?_
  refine gx_i (y := nI (k - 1)) (pk_sub (by omega)) ?_
  refine lv_lload_n hx hb d_X_put_26 rfl (lv_at hl 3 rfl) ?_
  refine g_last (t0 := 0) (k := k - 1) hx hb hK hP hD hS xn rfl (by omega) (by omega) d_X_put_27 (fun w H locs xn hf hP hD hS => ?_)
  have x0 := hf.at x0 (by omega)
  have x1 := hf.at x1 (by omega)
  have s0 := hf.at s0 (by omega)
  have sko := hf.at sko (by omega)
  have skc := hf.at skc (by omega)
  have sbo := hf.at sbo (by omega)
  have sbc := hf.at sbc (by omega)
  have lo := hf.at lo (by omega)
  have lc := hf.at lc (by omega)
  have to := hf.at to (by omega)
  have tc := hf.at tc (by omega)
  have xr := hf.at xr (by omega)
  have hX := hX.kept hf (by omega)
  have hfr := hfr.in hf (by omega) (by omega)
  refine lv_lload hx hb d_X_put_28 (lv_at hl 0 rfl) ?_
  exact vx_ret (gw_lret hx hb hr hlocks hK hP hD hS (Nat.le_of_ble_eq_true rfl) (Nat.le_of_ble_eq_true rfl) d_X_put_30 ⟨h1, h2, k, hk1, hk, rfl, rfl, ⟨x0, x1, hsf, hX, ⟨s0, ⟨sko, skc⟩, ⟨sbo, sbc⟩⟩, ⟨lo, lc⟩, ⟨to, tc⟩, xn, xr⟩, hfr⟩)

set_option maxHeartbeats 4000000 in
set_option maxRecDepth 100000 in
theorem c_X_point {l : Launch} (hlt : l.stackTraces = false) {D : va_G} {cJ cI cZ cS : ClassId} {ws : va_W} {sz base : Nat} {b N : Nat} {A : Nat → Nat} {sf : Nat → Option Nat} {K B : Nat → Nat → Int64} {E : Nat → Int32} {Km Bm : Nat → Int64} {Em : Int32} {Lf Tr nu ne : Nat → Int64} {ct : Int32} (hx0 : xAt cJ cS ws b A N sf K B E Km Bm Em Lf Tr nu ne ct) (hN1 : 1 ≤ N) (hN5 : N ≤ 5) {x : Int32} : vx_Met l y_X_point w_X_point ({ frames := 7, cells := 1, slots := 6, locals := 111 } : Room) (gx_Pc D classes (gT cJ cI cZ cS) [.ref (A 0), .int x] ws sz base) (va_Ql (fun r w => (okN N x ∧ ∃ k, 1 ≤ k ∧ k ≤ N ∧ x = nI k ∧ r = nu (k - 1)) ∧ w = ws) (gw_B D classes (gT cJ cI cZ cS) ws sz) (va_A ws sz)) (gX D classes (gT cJ cI cZ cS) ws sz (fun Z w => Z = xIOOB ∧ ¬ (okN N x) ∧ w = ws)) 1 6 (va_A ws sz) := by
  refine gx_head (by decide) (Nat.le_of_ble_eq_true rfl) (fun p e s m below meth c hsz hx hb hr hlocks hml hown hnm hts hK hN hP hD hS hA hB hE hno ls hl => ?_)
  have hown : s.vm.findClass R_X = some m.cls := hown
  have hT : ∀ w ∈ wG, w ∈ Cond.code y_X_point b_X_point 2 (some .long) :: wG := gd_t _
  have hF : CallFix p m c b_X_point 2 s ([.ref (A 0), .int x] : List Value).toArray (Cond.code y_X_point b_X_point 2 (some .long) :: wG) R_X := ⟨hx, hb, hml, hown, hts⟩
  have hl : lv_has ls 2 [(0, .ref (A 0)), (1, .int x)] := hl
  obtain ⟨x0, x1, hsf, hX, ⟨s0, ⟨sko, skc⟩, ⟨sbo, sbc⟩⟩, ⟨lo, lc⟩, ⟨to, tc⟩, xn, xr⟩ := hx0
  have hn : 2 * N ≤ 10 := by omega
  have he : 2 * N % 2 = 0 := by omega
  refine lv_aload_n hx hb d_X_point_0 rfl (lv_at hl 0 rfl) ?_
  refine lv_iload_n hx hb d_X_point_1 rfl (lv_at hl 1 rfl) ?_
  refine gx_cv0 (gxc_X_112 (As := [.int x]) (rest := []) hF hT (c_X_checkName hlt ⟨x0, x1, hsf, hX, ⟨s0, ⟨sko, skc⟩, ⟨sbo, sbc⟩⟩, ⟨lo, lc⟩, ⟨to, tc⟩, xn, xr⟩ hN1 hN5) ⟨(Nat.le_of_ble_eq_true rfl), (Nat.le_of_ble_eq_true rfl)⟩ rfl rfl (gx_pre hK hN hP hD hS hB hA hE) hK hP x0 rfl hl.1 rfl (Nat.le_of_ble_eq_true rfl) d_X_point_2 ⟨(Nat.le_of_ble_eq_true rfl), (Nat.le_of_ble_eq_true rfl)⟩) hK hD hS hA hno hlocks (Nat.le_of_ble_eq_true rfl) (Nat.le_of_ble_eq_true rfl) (fun Z u q => by obtain ⟨q1, q2, q3⟩ := q; exact ⟨q1, q2, q3⟩) (fun H locs h1 hP hD hS => ?_)
  obtain ⟨k, hk1, hk, rfl⟩ := h1.k hN5
  refine lv_aload_n hx hb d_X_point_5 rfl (lv_at hl 0 rfl) ?_
  refine gf_X_48 hF hT hK hP x0 rfl d_X_point_6 ?_
  refine lv_iload_n hx hb d_X_point_9 rfl (lv_at hl 1 rfl) ?_
  refine lv_iconst (v := nI 1) hx hb d_X_point_10 (by decide) ?_
  refine lv_isub hx hb d_X_point_11 ?_
  refine gx_i (y := nI (k - 1)) (pk_sub (by omega)) ?_
  refine g_lald (t0 := 0) (k := k - 1) hx hb hK hP xn rfl (by omega) (by omega) d_X_point_12 ?_
  exact vx_ret (gw_lret hx hb hr hlocks hK hP hD hS (Nat.le_of_ble_eq_true rfl) (Nat.le_of_ble_eq_true rfl) d_X_point_13 ⟨⟨h1, k, hk1, hk, rfl, rfl⟩, rfl⟩)

set_option maxHeartbeats 4000000 in
set_option maxRecDepth 100000 in
theorem c_X_fits {l : Launch} (hlt : l.stackTraces = false) {D : va_G} {cJ cI cZ cS : ClassId} {ws : va_W} {sz base : Nat} {b N : Nat} {A : Nat → Nat} {sf : Nat → Option Nat} {K B : Nat → Nat → Int64} {E : Nat → Int32} {Km Bm : Nat → Int64} {Em : Int32} {Lf Tr nu ne : Nat → Int64} {ct : Int32} (hx0 : xAt cJ cS ws b A N sf K B E Km Bm Em Lf Tr nu ne ct) (hN1 : 1 ≤ N) (hN5 : N ≤ 5) {x y z : Int32} : vx_Met l y_X_fits w_X_fits ({ frames := 7, cells := 3, slots := 18, locals := 111 } : Room) (gx_Pc D classes (gT cJ cI cZ cS) [.ref (A 0), .int x, .int y, .int z] ws sz base) (va_Qi (fun r w => ((okS x ∧ okT N y) ∧ okB z ∧ ∃ k, k < 8 ∧ x = nI k ∧ ((r = nI 1 ∧ (lr_gr (B k) (2 * N) (E k) y (nI 0) ≤ ((1 : Int64) <<< ((z - nI 1).toInt64 &&& 63)) - 1 ∧ lr_gr (B k) (2 * N) (E k) (-y) (nI 0) ≤ (1 : Int64) <<< ((z - nI 1).toInt64 &&& 63))) ∨ (r = nI 0 ∧ ¬ (lr_gr (B k) (2 * N) (E k) y (nI 0) ≤ ((1 : Int64) <<< ((z - nI 1).toInt64 &&& 63)) - 1 ∧ lr_gr (B k) (2 * N) (E k) (-y) (nI 0) ≤ (1 : Int64) <<< ((z - nI 1).toInt64 &&& 63))))) ∧ w = ws) (gw_B D classes (gT cJ cI cZ cS) ws sz) (va_A ws sz)) (gX D classes (gT cJ cI cZ cS) ws sz (fun Z w => (Z = xIOOB ∧ ¬ (okS x ∧ okT N y) ∧ w = ws) ∨ (Z = xIAE ∧ (okS x ∧ okT N y) ∧ ¬ okB z ∧ w = ws))) 3 18 (va_A ws sz) := by
  refine gx_head (by decide) (Nat.le_of_ble_eq_true rfl) (fun p e s m below meth c hsz hx hb hr hlocks hml hown hnm hts hK hN hP hD hS hA hB hE hno ls hl => ?_)
  have hown : s.vm.findClass R_X = some m.cls := hown
  have hT : ∀ w ∈ wG, w ∈ Cond.code y_X_fits b_X_fits 6 (some .boolean) :: wG := gd_t _
  have hF : CallFix p m c b_X_fits 6 s ([.ref (A 0), .int x, .int y, .int z] : List Value).toArray (Cond.code y_X_fits b_X_fits 6 (some .boolean) :: wG) R_X := ⟨hx, hb, hml, hown, hts⟩
  have hl : lv_has ls 6 [(0, .ref (A 0)), (1, .int x), (2, .int y), (3, .int z)] := hl
  obtain ⟨x0, x1, hsf, hX, ⟨s0, ⟨sko, skc⟩, ⟨sbo, sbc⟩⟩, ⟨lo, lc⟩, ⟨to, tc⟩, xn, xr⟩ := hx0
  have hn : 2 * N ≤ 10 := by omega
  have he : 2 * N % 2 = 0 := by omega
  refine lv_iload_n hx hb d_X_fits_0 rfl (lv_at hl 1 rfl) ?_
  refine gx_cv0 (gxc_X_58 (As := [.int x]) (rest := []) hF hT (c_X_checkShape hlt) ⟨(Nat.le_of_ble_eq_true rfl), (Nat.le_of_ble_eq_true rfl)⟩ rfl rfl (gx_pre hK hN hP hD hS hB hA hE) rfl hl.1 rfl (Nat.le_of_ble_eq_true rfl) d_X_fits_1 ⟨(Nat.le_of_ble_eq_true rfl), (Nat.le_of_ble_eq_true rfl)⟩) hK hD hS hA hno hlocks (Nat.le_of_ble_eq_true rfl) (Nat.le_of_ble_eq_true rfl) (fun Z u q => by obtain ⟨q1, q2, q3⟩ := q; exact Or.inl ⟨q1, fun q => q2 q.1, q3⟩) (fun H locs h1 hP hD hS => ?_)
  obtain ⟨k, hk, rfl⟩ := h1.k
  refine lv_aload_n hx hb d_X_fits_4 rfl (lv_at hl 0 rfl) ?_
  refine lv_iload_n hx hb d_X_fits_5 rfl (lv_at hl 2 rfl) ?_
  refine gx_cv0 (gxc_X_64 (As := [.int y]) (rest := []) hF hT (c_X_checkTerm hlt ⟨x0, x1, hsf, hX, ⟨s0, ⟨sko, skc⟩, ⟨sbo, sbc⟩⟩, ⟨lo, lc⟩, ⟨to, tc⟩, xn, xr⟩ hN1 hN5) ⟨(Nat.le_of_ble_eq_true rfl), (Nat.le_of_ble_eq_true rfl)⟩ rfl rfl (gx_pre hK hN hP hD hS hB hA hE) hK hP x0 rfl hl.1 rfl (Nat.le_of_ble_eq_true rfl) d_X_fits_6 ⟨(Nat.le_of_ble_eq_true rfl), (Nat.le_of_ble_eq_true rfl)⟩) hK hD hS hA hno hlocks (Nat.le_of_ble_eq_true rfl) (Nat.le_of_ble_eq_true rfl) (fun Z u q => by obtain ⟨q1, q2, q3⟩ := q; exact Or.inl ⟨q1, fun q => q2 q.2, q3⟩) (fun H locs h2 hP hD hS => ?_)
  refine lv_iload_n hx hb d_X_fits_9 rfl (lv_at hl 3 rfl) ?_
  refine lv_iconst (v := nI 1) hx hb d_X_fits_10 (by decide) ?_
  refine lv_icmp_lt (tgt := 20) hx hb d_X_fits_11 (by decide) (fun c1 => ?_) (fun c1 => ?_)
  · exact gx_throw (k := 6) hx hb hlt hF hT (by decide +kernel) wm_1_212 wm_1_11 rfl xt2 xb2 xo2 xg2 hK hN hP hD hS hB hE hno hlocks hl.1 d_X_fits_20 d_X_fits_23 d_X_fits_24 d_X_fits_26 d_X_fits_29 (Nat.le_of_ble_eq_true rfl) (Nat.le_of_ble_eq_true rfl) (Nat.le_of_ble_eq_true rfl) (Nat.le_of_ble_eq_true rfl) (Nat.le_of_ble_eq_true rfl) (Nat.le_of_ble_eq_true rfl) (Or.inr ⟨rfl, ⟨h1, h2⟩, fun q => q.1 c1, rfl⟩)
  · refine lv_iload_n hx hb d_X_fits_14 rfl (lv_at hl 3 rfl) ?_
    refine lv_bipush (v := nI 62) hx hb d_X_fits_15 (by decide) ?_
    refine lv_icmp_le (tgt := 30) hx hb d_X_fits_17 (by decide) (fun c2 => ?_) (fun c2 => ?_)
    · refine lv_lconst (v := 1) hx hb d_X_fits_30 rfl ?_
      refine lv_iload_n hx hb d_X_fits_31 rfl (lv_at hl 3 rfl) ?_
      refine lv_iconst (v := nI 1) hx hb d_X_fits_32 (by decide) ?_
      refine lv_isub hx hb d_X_fits_33 ?_
      refine lv_lshl (v := (1 : Int64) <<< ((z - (nI 1)).toInt64 &&& 63)) hx hb d_X_fits_34 rfl ?_
      refine lv_lstore (lv' := [(4, .long ((1 : Int64) <<< ((z - (nI 1)).toInt64 &&& 63))), (0, .ref (A 0)), (1, .int (nI k)), (2, .int y), (3, .int z)]) hx hb d_X_fits_35 hl (by decide) rfl (fun ls hl => ?_)
      refine lv_aload_n hx hb d_X_fits_37 rfl (lv_at hl 1 rfl) ?_
      refine gf_X_27 hF hT hK hP x0 rfl d_X_fits_38 ?_
      refine lv_iload_n hx hb d_X_fits_41 rfl (lv_at hl 2 rfl) ?_
      refine g_aald (t0 := 3) (k := k) hx hb hK hP x1 rfl (by omega) (by decide) (hsf k (by omega)) d_X_fits_42 ?_
      refine lv_iload_n hx hb d_X_fits_43 rfl (lv_at hl 3 rfl) ?_
      refine lv_iconst (v := nI 0) hx hb d_X_fits_44 (by decide) ?_
      refine gw_cl0 (gc_X_83 (As := [.int y, .int (nI 0)]) (rest := []) hF hT (c_S_greatest (hX k (by omega)).1 hn he (h2.tm hN5) lr_tm0) ⟨(Nat.le_of_ble_eq_true rfl), (Nat.le_of_ble_eq_true rfl)⟩ rfl rfl hK hN hP hD (hX k (by omega)).1.1 rfl hl.1 rfl (Nat.le_of_ble_eq_true rfl) d_X_fits_45 ⟨(Nat.le_of_ble_eq_true rfl), (Nat.le_of_ble_eq_true rfl)⟩) hD hS hA (fun r3 H locs e_r3 hP hD hS => ?_)
      subst e_r3
      refine lv_lload hx hb d_X_fits_48 (lv_at hl 0 rfl) ?_
      refine lv_lconst (v := 1) hx hb d_X_fits_50 rfl ?_
      refine lv_lsub hx hb d_X_fits_51 ?_
      refine gx_lgt (tgt := 78) hx hb d_X_fits_52 d_X_fits_53 (by decide) (fun c4 => ?_) (fun c4 => ?_)
      · refine lv_iconst (v := nI 0) hx hb d_X_fits_78 (by decide) ?_
        exact vx_ret (gw_zret hx hb hr hlocks hK hP hD hS (Nat.le_of_ble_eq_true rfl) (Nat.le_of_ble_eq_true rfl) rfl d_X_fits_79 ⟨⟨⟨h1, h2⟩, ⟨c1, c2⟩, k, hk, rfl, Or.inr ⟨rfl, fun q => absurd c4 (Int64.not_lt.mpr q.1)⟩⟩, rfl⟩)
      · refine lv_aload_n hx hb d_X_fits_56 rfl (lv_at hl 1 rfl) ?_
        refine gf_X_27 hF hT hK hP x0 rfl d_X_fits_57 ?_
        refine lv_iload_n hx hb d_X_fits_60 rfl (lv_at hl 2 rfl) ?_
        refine g_aald (t0 := 3) (k := k) hx hb hK hP x1 rfl (by omega) (by decide) (hsf k (by omega)) d_X_fits_61 ?_
        refine lv_iload_n hx hb d_X_fits_62 rfl (lv_at hl 3 rfl) ?_
        refine lv_ineg hx hb d_X_fits_63 ?_
        refine lv_iconst (v := nI 0) hx hb d_X_fits_64 (by decide) ?_
        refine gw_cl0 (gc_X_83 (As := [.int (-y), .int (nI 0)]) (rest := []) hF hT (c_S_greatest (hX k (by omega)).1 hn he (lr_tm_neg he (h2.tm hN5)) lr_tm0) ⟨(Nat.le_of_ble_eq_true rfl), (Nat.le_of_ble_eq_true rfl)⟩ rfl rfl hK hN hP hD (hX k (by omega)).1.1 rfl hl.1 rfl (Nat.le_of_ble_eq_true rfl) d_X_fits_65 ⟨(Nat.le_of_ble_eq_true rfl), (Nat.le_of_ble_eq_true rfl)⟩) hD hS hA (fun r5 H locs e_r5 hP hD hS => ?_)
        subst e_r5
        refine lv_lload hx hb d_X_fits_68 (lv_at hl 0 rfl) ?_
        refine gx_lgt (tgt := 78) hx hb d_X_fits_70 d_X_fits_71 (by decide) (fun c6 => ?_) (fun c6 => ?_)
        · refine lv_iconst (v := nI 0) hx hb d_X_fits_78 (by decide) ?_
          exact vx_ret (gw_zret hx hb hr hlocks hK hP hD hS (Nat.le_of_ble_eq_true rfl) (Nat.le_of_ble_eq_true rfl) rfl d_X_fits_79 ⟨⟨⟨h1, h2⟩, ⟨c1, c2⟩, k, hk, rfl, Or.inr ⟨rfl, fun q => absurd c6 (Int64.not_lt.mpr q.2)⟩⟩, rfl⟩)
        · refine lv_iconst (v := nI 1) hx hb d_X_fits_74 (by decide) ?_
          refine lv_goto (tgt := 79) hx hb d_X_fits_75 (by decide) ?_
          exact vx_ret (gw_zret hx hb hr hlocks hK hP hD hS (Nat.le_of_ble_eq_true rfl) (Nat.le_of_ble_eq_true rfl) rfl d_X_fits_79 ⟨⟨⟨h1, h2⟩, ⟨c1, c2⟩, k, hk, rfl, Or.inl ⟨rfl, Int64.not_lt.mp c4, Int64.not_lt.mp c6⟩⟩, rfl⟩)
    · exact gx_throw (k := 6) hx hb hlt hF hT (by decide +kernel) wm_1_212 wm_1_11 rfl xt2 xb2 xo2 xg2 hK hN hP hD hS hB hE hno hlocks hl.1 d_X_fits_20 d_X_fits_23 d_X_fits_24 d_X_fits_26 d_X_fits_29 (Nat.le_of_ble_eq_true rfl) (Nat.le_of_ble_eq_true rfl) (Nat.le_of_ble_eq_true rfl) (Nat.le_of_ble_eq_true rfl) (Nat.le_of_ble_eq_true rfl) (Nat.le_of_ble_eq_true rfl) (Or.inr ⟨rfl, ⟨h1, h2⟩, fun q => c2 q.2, rfl⟩)
