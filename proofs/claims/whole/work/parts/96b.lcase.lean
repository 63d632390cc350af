/-! the law's cases; written by program -/
set_option maxHeartbeats 4000000 in
set_option maxRecDepth 100000 in
theorem lc_narrow {p : Program} {l : Launch} {e : Env} {s : State} {m : MethodId} {below : List Frame} {meth : Method} {c : Code} {b L : Nat} {xs : Nat → Int32} {D : va_G} {cJ cI cZ cS : ClassId} {A A2 : Nat → Nat} {o N : Nat} {sf : Nat → Option Nat} {i : Nat} {w : va_W} {H : Heap} {locs : List Loc} {cells slots : Nat} {ls : Array Slot} {Q : State → Prop} (hlt : l.stackTraces = false) (hF : CallFix p m c code 8 s #[Value.ref b] lw_tbl R_L) (hK : va_K D classes (gT cJ cI cZ cS) s) (hN : gN s) (hE : gE s.heap.size s s.heap) (hC : gC s) (hX : va_X b L xs s s.heap) (hbl : b < s.heap.size) (hi : i + 6 ≤ L) (hL : L ≤ 3073) (hN1 : 1 ≤ N) (hN5 : N ≤ 5) (hI : LI cJ cI cZ cS A A2 o N sf w) (hP : va_P D classes w H) (hD : va_D (va_A [] s.heap.size) w) (hS : va_S (va_A [] s.heap.size) s.heap H locs) (hc : cells + 5 ≤ 601024) (hs : slots + 30 ≤ 7292999) (hl : lv_has ls 8 [(4, .int (nI i)), (3, .ref o), (2, .ref (A2 0)), (1, .ref (A 0)), (0, .ref b)]) (kk : ∀ (w : va_W) (H : Heap) (locs : List Loc) (ls : Array Slot), LI cJ cI cZ cS A A2 o N sf w → va_P D classes w H → va_D (va_A [] s.heap.size) w → va_S (va_A [] s.heap.size) s.heap H locs → lv_has ls 8 [(4, .int (nI i)), (3, .ref o), (2, .ref (A2 0)), (1, .ref (A 0)), (0, .ref b)] → W p l e room_1 s m #[Value.ref b] below meth c H locs (cells + 5) (slots + 30) Q (F0 m 1727 ls [])) : W p l e room_1 s m #[Value.ref b] below meth c H locs cells slots Q (F0 m 706 ls []) := by
  have hx := hF.1
  have hb := hF.2.1
  have hown := hF.2.2.2.1
  have hts := hF.2.2.2.2
  have hT : ∀ w ∈ wG, w ∈ lw_tbl := fun w h => (List.mem_filter.mp h).1
  have hA : ∀ q, s.heap.size ≤ q → va_A [] s.heap.size q := fun q h => Or.inr h
  have hB : ∀ q, va_A [] s.heap.size q → s.heap.size ≤ q := fun q h => by
    rcases h with ⟨k, e, h⟩ | h
    · exact absurd h (by simp)
    · exact h
  have hbA : ¬ va_A [] s.heap.size b := fun h => Nat.not_le.mpr hbl (hB b h)
  obtain ⟨K, B, E, Km, Bm, Em, Lf, Tr, nu, ne, m1, th, R, EM, Pt, nA, nB, nC, hX0⟩ := hI
  have hx0 := hX0.1
  obtain ⟨f, ho⟩ := hX0.2.2.1
  have hA0 := hX0.2.2.2.1
  have hEm := hX0.2.2.2.2.2.2.1
  have hm1 := hX0.2.2.2.2.2.2.2
  refine lv_aload_n hx hb d_L_law_706 rfl (lv_at hl 3 rfl) ?_
  refine lv_aload_n hx hb d_L_law_707 rfl (lv_at hl 4 rfl) ?_
  refine lv_iload hx hb d_L_law_708 (lv_at hl 0 rfl) ?_
  refine lv_iconst (v := nI 1) hx hb d_L_law_710 (by decide) ?_
  refine lv_iadd hx hb d_L_law_711 ?_
  refine gx_i (y := nI (i + 1)) (nI_add _ _) ?_
  refine gl_ld (j := i + 1) hx hb hX hbl hbA hS (by omega) hL d_L_law_712 ?_
  refine lv_aload_n hx hb d_L_law_713 rfl (lv_at hl 4 rfl) ?_
  refine lv_iload hx hb d_L_law_714 (lv_at hl 0 rfl) ?_
  refine lv_iconst (v := nI 2) hx hb d_L_law_716 (by decide) ?_
  refine lv_iadd hx hb d_L_law_717 ?_
  refine gx_i (y := nI (i + 2)) (nI_add _ _) ?_
  refine gl_ld (j := i + 2) hx hb hX hbl hbA hS (by omega) hL d_L_law_718 ?_
  refine lv_aload_n hx hb d_L_law_719 rfl (lv_at hl 4 rfl) ?_
  refine lv_iload hx hb d_L_law_720 (lv_at hl 0 rfl) ?_
  refine lv_iconst (v := nI 3) hx hb d_L_law_722 (by decide) ?_
  refine lv_iadd hx hb d_L_law_723 ?_
  refine gx_i (y := nI (i + 3)) (nI_add _ _) ?_
  refine gl_ld (j := i + 3) hx hb hX hbl hbA hS (by omega) hL d_L_law_724 ?_
  refine lv_aload_n hx hb d_L_law_725 rfl (lv_at hl 1 rfl) ?_
  refine gw_ci (gh_rS (n := 5) (As := [.ref (A 0), .int (xs (i + 1)), .int (xs (i + 2)), .int (xs (i + 3)), .ref o]) (rest := []) hF hT (hc_narrow (q0 := 0) (bo := 64) (o := o) (f := f) hx0.1 ho (fun r w h => by obtain ⟨_, k, _, _, k2, _, _, k3, _, _, _, _, _, _, _, _, _, _, _, h4⟩ := h; exact h4.1 64 (Or.inr (by omega))) (fun Z w h => h.imp (fun q => q.1) (fun q => q.1)) (c_X_narrow hlt hx0 hN1 hN5 hEm)) wm_2_170 wm_2_171 wm_1_0 wm_2_172 (by decide +kernel) ⟨(Nat.le_of_ble_eq_true rfl), (Nat.le_of_ble_eq_true rfl)⟩ rfl rfl (gh_pre hK hN hP hD hS hB hA hE hC) rfl hl.1 rfl (Nat.le_of_ble_eq_true rfl) d_L_law_726 ⟨(by show _ ≤ 601024; omega), (by show _ ≤ 7292999; omega)⟩) hD hS hA (fun r w1 H locs hw hP hD hS => ?_)
  obtain ⟨o', c1, hM1, hQ⟩ := lo_narrow hN1 hN5 hX0 hw
  have hF1 : lm_F N R EM (fun k => iv_mat N (B k)) := iv_F hN5 hA0
  refine lv_istore (lv' := [(5, .int r), (4, .int (nI i)), (3, .ref o), (2, .ref (A2 0)), (1, .ref (A 0)), (0, .ref b)]) hx hb d_L_law_729 hl (by decide) rfl (fun ls hl => ?_)
  refine lv_aload_n hx hb d_L_law_731 rfl (lv_at hl 3 rfl) ?_
  refine lv_aload_n hx hb d_L_law_732 rfl (lv_at hl 5 rfl) ?_
  refine lv_iload hx hb d_L_law_733 (lv_at hl 1 rfl) ?_
  refine lv_iconst (v := nI 1) hx hb d_L_law_735 (by decide) ?_
  refine lv_iadd hx hb d_L_law_736 ?_
  refine gx_i (y := nI (i + 1)) (nI_add _ _) ?_
  refine gl_ld (j := i + 1) hx hb hX hbl hbA hS (by omega) hL d_L_law_737 ?_
  refine lv_aload_n hx hb d_L_law_738 rfl (lv_at hl 5 rfl) ?_
  refine lv_iload hx hb d_L_law_739 (lv_at hl 1 rfl) ?_
  refine lv_iconst (v := nI 2) hx hb d_L_law_741 (by decide) ?_
  refine lv_iadd hx hb d_L_law_742 ?_
  refine gx_i (y := nI (i + 2)) (nI_add _ _) ?_
  refine gl_ld (j := i + 2) hx hb hX hbl hbA hS (by omega) hL d_L_law_743 ?_
  refine lv_aload_n hx hb d_L_law_744 rfl (lv_at hl 5 rfl) ?_
  refine lv_iload hx hb d_L_law_745 (lv_at hl 1 rfl) ?_
  refine lv_iconst (v := nI 3) hx hb d_L_law_747 (by decide) ?_
  refine lv_iadd hx hb d_L_law_748 ?_
  refine gx_i (y := nI (i + 3)) (nI_add _ _) ?_
  refine gl_ld (j := i + 3) hx hb hX hbl hbA hS (by omega) hL d_L_law_749 ?_
  refine gw_ci (gc_L_134 (As := [.int (xs (i + 1)), .int (xs (i + 2)), .int (xs (i + 3))]) (rest := []) hF hT (c_M_narrow hM1 hN1 hN5 hF1 c1) ⟨(Nat.le_of_ble_eq_true rfl), (Nat.le_of_ble_eq_true rfl)⟩ rfl rfl hK hN hP hD hM1.obj rfl hl.1 rfl (Nat.le_of_ble_eq_true rfl) d_L_law_750 ⟨(by show _ ≤ 601024; omega), (by show _ ≤ 7292999; omega)⟩) hD hS hA (fun r' w2 H locs hw2 hP hD hS => ?_)
  obtain ⟨⟨⟨nm, hobj⟩, hLI⟩, f2, ho2, hv⟩ := hQ r' w2 hw2
  refine lv_istore (lv' := [(6, .int r'), (5, .int r), (4, .int (nI i)), (3, .ref o), (2, .ref (A2 0)), (1, .ref (A 0)), (0, .ref b)]) hx hb d_L_law_753 hl (by decide) rfl (fun ls hl => ?_)
  refine lv_aload_n hx hb d_L_law_755 rfl (lv_at hl 4 rfl) ?_
  refine gw_ci0 (gc_L_106 (As := []) (rest := []) hF hT (c_M_thrown hobj hN1 hN5) ⟨(Nat.le_of_ble_eq_true rfl), (Nat.le_of_ble_eq_true rfl)⟩ rfl rfl hK hN hP hD hobj rfl hl.1 rfl (Nat.le_of_ble_eq_true rfl) d_L_law_756 ⟨(by show _ ≤ 601024; omega), (by show _ ≤ 7292999; omega)⟩) hD hS hA (fun r3 H locs e3 hP hD hS => ?_)
  subst e3
  refine lv_iload hx hb d_L_law_759 (lv_at hl 1 rfl) ?_
  refine lv_icmp_eq (tgt := 766) hx hb d_L_law_761 (by decide) (fun c => ?_) (fun c => absurd rfl c)
  refine lv_iload hx hb d_L_law_766 (lv_at hl 1 rfl) ?_
  refine lv_if_ne (tgt := 783) hx hb d_L_law_768 (by decide) (fun c => ?_) (fun c => ?_)
  · refine lv_goto (tgt := 1727) hx hb d_L_law_783 (by decide) ?_
    refine W.widen (k := cells + 5) (n := slots + 30) (by omega) (by omega) ?_
    exact kk _ _ _ _ hLI hP hD hS (lv_sub hl [2, 3, 4, 5, 6] rfl)
  · refine lv_aload_n hx hb d_L_law_771 rfl (lv_at hl 3 rfl) ?_
    refine lv_iconst (v := nI 0) hx hb d_L_law_772 (by decide) ?_
    refine g_lald (t0 := 0) (k := 0) hx hb hK hP ho2 rfl (by omega) (by omega) d_L_law_773 ?_
    refine lv_iload hx hb d_L_law_774 (lv_at hl 0 rfl) ?_
    refine lv_i2l (v := (r').toInt64) hx hb d_L_law_776 rfl ?_
    refine gx_leq (tgt := 783) hx hb d_L_law_777 d_L_law_778 (by decide) (fun c8 => ?_) (fun c8 => absurd (hv (c.trans nI_0.symm)) c8)
    refine lv_goto (tgt := 1727) hx hb d_L_law_783 (by decide) ?_
    refine W.widen (k := cells + 5) (n := slots + 30) (by omega) (by omega) ?_
    exact kk _ _ _ _ hLI hP hD hS (lv_sub hl [2, 3, 4, 5, 6] rfl)

set_option maxHeartbeats 4000000 in
set_option maxRecDepth 100000 in
theorem lc_copy {p : Program} {l : Launch} {e : Env} {s : State} {m : MethodId} {below : List Frame} {meth : Method} {c : Code} {b L : Nat} {xs : Nat → Int32} {D : va_G} {cJ cI cZ cS : ClassId} {A A2 : Nat → Nat} {o N : Nat} {sf : Nat → Option Nat} {i : Nat} {w : va_W} {H : Heap} {locs : List Loc} {cells slots : Nat} {ls : Array Slot} {Q : State → Prop} (hlt : l.stackTraces = false) (hF : CallFix p m c code 8 s #[Value.ref b] lw_tbl R_L) (hK : va_K D classes (gT cJ cI cZ cS) s) (hN : gN s) (hE : gE s.heap.size s s.heap) (hC : gC s) (hX : va_X b L xs s s.heap) (hbl : b < s.heap.size) (hi : i + 6 ≤ L) (hL : L ≤ 3073) (hN1 : 1 ≤ N) (hN5 : N ≤ 5) (hI : LI cJ cI cZ cS A A2 o N sf w) (hP : va_P D classes w H) (hD : va_D (va_A [] s.heap.size) w) (hS : va_S (va_A [] s.heap.size) s.heap H locs) (hc : cells + 5 ≤ 601024) (hs : slots + 30 ≤ 7292999) (hl : lv_has ls 8 [(4, .int (nI i)), (3, .ref o), (2, .ref (A2 0)), (1, .ref (A 0)), (0, .ref b)]) (kk : ∀ (w : va_W) (H : Heap) (locs : List Loc) (ls : Array Slot), LI cJ cI cZ cS A A2 o N sf w → va_P D classes w H → va_D (va_A [] s.heap.size) w → va_S (va_A [] s.heap.size) s.heap H locs → lv_has ls 8 [(4, .int (nI i)), (3, .ref o), (2, .ref (A2 0)), (1, .ref (A 0)), (0, .ref b)] → W p l e room_1 s m #[Value.ref b] below meth c H locs (cells + 5) (slots + 30) Q (F0 m 1727 ls [])) : W p l e room_1 s m #[Value.ref b] below meth c H locs cells slots Q (F0 m 786 ls []) := by
  have hx := hF.1
  have hb := hF.2.1
  have hown := hF.2.2.2.1
  have hts := hF.2.2.2.2
  have hT : ∀ w ∈ wG, w ∈ lw_tbl := fun w h => (List.mem_filter.mp h).1
  have hA : ∀ q, s.heap.size ≤ q → va_A [] s.heap.size q := fun q h => Or.inr h
  have hB : ∀ q, va_A [] s.heap.size q → s.heap.size ≤ q := fun q h => by
    rcases h with ⟨k, e, h⟩ | h
    · exact absurd h (by simp)
    · exact h
  have hbA : ¬ va_A [] s.heap.size b := fun h => Nat.not_le.mpr hbl (hB b h)
  obtain ⟨K, B, E, Km, Bm, Em, Lf, Tr, nu, ne, m1, th, R, EM, Pt, nA, nB, nC, hX0⟩ := hI
  have hx0 := hX0.1
  obtain ⟨f, ho⟩ := hX0.2.2.1
  have hA0 := hX0.2.2.2.1
  have hEm := hX0.2.2.2.2.2.2.1
  have hm1 := hX0.2.2.2.2.2.2.2
  refine lv_aload_n hx hb d_L_law_786 rfl (lv_at hl 3 rfl) ?_
  refine lv_aload_n hx hb d_L_law_787 rfl (lv_at hl 4 rfl) ?_
  refine lv_iload hx hb d_L_law_788 (lv_at hl 0 rfl) ?_
  refine lv_iconst (v := nI 1) hx hb d_L_law_790 (by decide) ?_
  refine lv_iadd hx hb d_L_law_791 ?_
  refine gx_i (y := nI (i + 1)) (nI_add _ _) ?_
  refine gl_ld (j := i + 1) hx hb hX hbl hbA hS (by omega) hL d_L_law_792 ?_
  refine lv_aload_n hx hb d_L_law_793 rfl (lv_at hl 4 rfl) ?_
  refine lv_iload hx hb d_L_law_794 (lv_at hl 0 rfl) ?_
  refine lv_iconst (v := nI 2) hx hb d_L_law_796 (by decide) ?_
  refine lv_iadd hx hb d_L_law_797 ?_
  refine gx_i (y := nI (i + 2)) (nI_add _ _) ?_
  refine gl_ld (j := i + 2) hx hb hX hbl hbA hS (by omega) hL d_L_law_798 ?_
  refine gw_ci (gh_rS (n := 3) (As := [.ref (A 0), .int (xs (i + 1)), .int (xs (i + 2))]) (rest := []) hF hT (hc_copy (q0 := 0) (bo := 64) (o := o) (f := f) hx0.1 (fun Z w h => h.1) (c_X_copy hlt hx0 hN1 hN5 hEm)) wm_2_181 wm_2_182 wm_1_0 wm_2_183 (by decide +kernel) ⟨(Nat.le_of_ble_eq_true rfl), (Nat.le_of_ble_eq_true rfl)⟩ rfl rfl (gh_pre hK hN hP hD hS hB hA hE hC) rfl hl.1 rfl (Nat.le_of_ble_eq_true rfl) d_L_law_799 ⟨(by show _ ≤ 601024; omega), (by show _ ≤ 7292999; omega)⟩) hD hS hA (fun r w1 H locs hw hP hD hS => ?_)
  obtain ⟨hM1, hQ⟩ := lo_copy hN1 hN5 hX0 hw
  have hF1 : lm_F N R EM (fun k => iv_mat N (B k)) := iv_F hN5 hA0
  refine lv_istore (lv' := [(5, .int r), (4, .int (nI i)), (3, .ref o), (2, .ref (A2 0)), (1, .ref (A 0)), (0, .ref b)]) hx hb d_L_law_802 hl (by decide) rfl (fun ls hl => ?_)
  refine lv_aload_n hx hb d_L_law_804 rfl (lv_at hl 3 rfl) ?_
  refine lv_aload_n hx hb d_L_law_805 rfl (lv_at hl 5 rfl) ?_
  refine lv_iload hx hb d_L_law_806 (lv_at hl 1 rfl) ?_
  refine lv_iconst (v := nI 1) hx hb d_L_law_808 (by decide) ?_
  refine lv_iadd hx hb d_L_law_809 ?_
  refine gx_i (y := nI (i + 1)) (nI_add _ _) ?_
  refine gl_ld (j := i + 1) hx hb hX hbl hbA hS (by omega) hL d_L_law_810 ?_
  refine lv_aload_n hx hb d_L_law_811 rfl (lv_at hl 5 rfl) ?_
  refine lv_iload hx hb d_L_law_812 (lv_at hl 1 rfl) ?_
  refine lv_iconst (v := nI 2) hx hb d_L_law_814 (by decide) ?_
  refine lv_iadd hx hb d_L_law_815 ?_
  refine gx_i (y := nI (i + 2)) (nI_add _ _) ?_
  refine gl_ld (j := i + 2) hx hb hX hbl hbA hS (by omega) hL d_L_law_816 ?_
  refine gw_cv (gc_L_138 (As := [.int (xs (i + 1)), .int (xs (i + 2))]) (rest := []) hF hT (c_M_copy hM1 hN1 hN5 (fun k hk => by rw [(hA0 k hk).2.2]; exact hx0.E01 hk)) ⟨(Nat.le_of_ble_eq_true rfl), (Nat.le_of_ble_eq_true rfl)⟩ rfl rfl hK hN hP hD hM1.obj rfl hl.1 rfl (Nat.le_of_ble_eq_true rfl) d_L_law_817 ⟨(by show _ ≤ 601024; omega), (by show _ ≤ 7292999; omega)⟩) hD hS hA (fun w2 H locs hw2 hP hD hS => ?_)
  obtain ⟨⟨nm, hobj⟩, hLI⟩ := hQ w2 hw2
  refine lv_aload_n hx hb d_L_law_820 rfl (lv_at hl 3 rfl) ?_
  refine gw_ci0 (gc_L_106 (As := []) (rest := []) hF hT (c_M_thrown hobj hN1 hN5) ⟨(Nat.le_of_ble_eq_true rfl), (Nat.le_of_ble_eq_true rfl)⟩ rfl rfl hK hN hP hD hobj rfl hl.1 rfl (Nat.le_of_ble_eq_true rfl) d_L_law_821 ⟨(by show _ ≤ 601024; omega), (by show _ ≤ 7292999; omega)⟩) hD hS hA (fun r3 H locs e3 hP hD hS => ?_)
  subst e3
  refine lv_iload hx hb d_L_law_824 (lv_at hl 0 rfl) ?_
  refine lv_icmp_eq (tgt := 831) hx hb d_L_law_826 (by decide) (fun c => ?_) (fun c => absurd rfl c)
  refine lv_goto (tgt := 1727) hx hb d_L_law_831 (by decide) ?_
  refine W.widen (k := cells + 5) (n := slots + 30) (by omega) (by omega) ?_
  exact kk _ _ _ _ hLI hP hD hS (lv_sub hl [1, 2, 3, 4, 5] rfl)

set_option maxHeartbeats 4000000 in
set_option maxRecDepth 100000 in
theorem lc_set {p : Program} {l : Launch} {e : Env} {s : State} {m : MethodId} {below : List Frame} {meth : Method} {c : Code} {b L : Nat} {xs : Nat → Int32} {D : va_G} {cJ cI cZ cS : ClassId} {A A2 : Nat → Nat} {o N : Nat} {sf : Nat → Option Nat} {i : Nat} {w : va_W} {H : Heap} {locs : List Loc} {cells slots : Nat} {ls : Array Slot} {Q : State → Prop} (hlt : l.stackTraces = false) (hF : CallFix p m c code 8 s #[Value.ref b] lw_tbl R_L) (hK : va_K D classes (gT cJ cI cZ cS) s) (hN : gN s) (hE : gE s.heap.size s s.heap) (hC : gC s) (hX : va_X b L xs s s.heap) (hbl : b < s.heap.size) (hi : i + 6 ≤ L) (hL : L ≤ 3073) (hN1 : 1 ≤ N) (hN5 : N ≤ 5) (hI : LI cJ cI cZ cS A A2 o N sf w) (hP : va_P D classes w H) (hD : va_D (va_A [] s.heap.size) w) (hS : va_S (va_A [] s.heap.size) s.heap H locs) (hc : cells + 5 ≤ 601024) (hs : slots + 30 ≤ 7292999) (hl : lv_has ls 8 [(4, .int (nI i)), (3, .ref o), (2, .ref (A2 0)), (1, .ref (A 0)), (0, .ref b)]) (kk : ∀ (w : va_W) (H : Heap) (locs : List Loc) (ls : Array Slot), LI cJ cI cZ cS A A2 o N sf w → va_P D classes w H → va_D (va_A [] s.heap.size) w → va_S (va_A [] s.heap.size) s.heap H locs → lv_has ls 8 [(4, .int (nI i)), (3, .ref o), (2, .ref (A2 0)), (1, .ref (A 0)), (0, .ref b)] → W p l e room_1 s m #[Value.ref b] below meth c H locs (cells + 5) (slots + 30) Q (F0 m 1727 ls [])) : W p l e room_1 s m #[Value.ref b] below meth c H locs cells slots Q (F0 m 834 ls []) := by
  have hx := hF.1
  have hb := hF.2.1
  have hown := hF.2.2.2.1
  have hts := hF.2.2.2.2
  have hT : ∀ w ∈ wG, w ∈ lw_tbl := fun w h => (List.mem_filter.mp h).1
  have hA : ∀ q, s.heap.size ≤ q → va_A [] s.heap.size q := fun q h => Or.inr h
  have hB : ∀ q, va_A [] s.heap.size q → s.heap.size ≤ q := fun q h => by
    rcases h with ⟨k, e, h⟩ | h
    · exact absurd h (by simp)
    · exact h
  have hbA : ¬ va_A [] s.heap.size b := fun h => Nat.not_le.mpr hbl (hB b h)
  obtain ⟨K, B, E, Km, Bm, Em, Lf, Tr, nu, ne, m1, th, R, EM, Pt, nA, nB, nC, hX0⟩ := hI
  have hx0 := hX0.1
  obtain ⟨f, ho⟩ := hX0.2.2.1
  have hA0 := hX0.2.2.2.1
  have hEm := hX0.2.2.2.2.2.2.1
  have hm1 := hX0.2.2.2.2.2.2.2
  refine lv_aload_n hx hb d_L_law_834 rfl (lv_at hl 3 rfl) ?_
  refine lv_aload_n hx hb d_L_law_835 rfl (lv_at hl 4 rfl) ?_
  refine lv_iload hx hb d_L_law_836 (lv_at hl 0 rfl) ?_
  refine lv_iconst (v := nI 1) hx hb d_L_law_838 (by decide) ?_
  refine lv_iadd hx hb d_L_law_839 ?_
  refine gx_i (y := nI (i + 1)) (nI_add _ _) ?_
  refine gl_ld (j := i + 1) hx hb hX hbl hbA hS (by omega) hL d_L_law_840 ?_
  refine lv_aload_n hx hb d_L_law_841 rfl (lv_at hl 4 rfl) ?_
  refine lv_iload hx hb d_L_law_842 (lv_at hl 0 rfl) ?_
  refine lv_iconst (v := nI 2) hx hb d_L_law_844 (by decide) ?_
  refine lv_iadd hx hb d_L_law_845 ?_
  refine gx_i (y := nI (i + 2)) (nI_add _ _) ?_
  refine gl_ld (j := i + 2) hx hb hX hbl hbA hS (by omega) hL d_L_law_846 ?_
  refine lv_aload_n hx hb d_L_law_847 rfl (lv_at hl 4 rfl) ?_
  refine lv_iload hx hb d_L_law_848 (lv_at hl 0 rfl) ?_
  refine lv_iconst (v := nI 3) hx hb d_L_law_850 (by decide) ?_
  refine lv_iadd hx hb d_L_law_851 ?_
  refine gx_i (y := nI (i + 3)) (nI_add _ _) ?_
  refine gl_ld (j := i + 3) hx hb hX hbl hbA hS (by omega) hL d_L_law_852 ?_
  refine lv_aload_n hx hb d_L_law_853 rfl (lv_at hl 4 rfl) ?_
  refine lv_iload hx hb d_L_law_854 (lv_at hl 0 rfl) ?_
  refine lv_iconst (v := nI 4) hx hb d_L_law_856 (by decide) ?_
  refine lv_iadd hx hb d_L_law_857 ?_
  refine gx_i (y := nI (i + 4)) (nI_add _ _) ?_
  refine gl_ld (j := i + 4) hx hb hX hbl hbA hS (by omega) hL d_L_law_858 ?_
  refine lv_i2l (v := (xs (i + 4)).toInt64) hx hb d_L_law_859 rfl ?_
  refine lv_bipush (v := nI 32) hx hb d_L_law_860 (by decide) ?_
  refine lv_lshl (v := ((xs (i + 4)).toInt64) <<< ((nI 32).toInt64 &&& 63)) hx hb d_L_law_862 rfl ?_
  refine lv_aload_n hx hb d_L_law_863 rfl (lv_at hl 4 rfl) ?_
  refine lv_iload hx hb d_L_law_864 (lv_at hl 0 rfl) ?_
  refine lv_iconst (v := nI 5) hx hb d_L_law_866 (by decide) ?_
  refine lv_iadd hx hb d_L_law_867 ?_
  refine gx_i (y := nI (i + 5)) (nI_add _ _) ?_
  refine gl_ld (j := i + 5) hx hb hX hbl hbA hS (by omega) hL d_L_law_868 ?_
  refine lv_i2l (v := (xs (i + 5)).toInt64) hx hb d_L_law_869 rfl ?_
  refine lv_ldc2 (v := (4294967295 : Int64)) hx hb hown (hts _ (hT _ wm_4_120)) d_L_law_870 ?_
  refine lv_land hx hb d_L_law_873 ?_
  refine lv_lor hx hb d_L_law_874 ?_
  refine lv_aload_n hx hb d_L_law_875 rfl (lv_at hl 1 rfl) ?_
  refine gw_ci (gh_rS (n := 6) (As := [.ref (A 0), .int (xs (i + 1)), .int (xs (i + 2)), .int (xs (i + 3)), .long ((((xs (i + 4)).toInt64) <<< ((nI 32).toInt64 &&& 63)) ||| (((xs (i + 5)).toInt64) &&& (4294967295 : Int64))), .ref o]) (rest := []) hF hT (hc_set (q0 := 0) (bo := 64) (o := o) (f := f) hx0.1 ho (fun r w h => by obtain ⟨_, _, k, _, _, _, _, _, _, _, _, _, _, _, h4⟩ := h; exact h4.1 64 (Or.inr (by omega))) (fun Z w h => h.imp (fun q => q.1) (fun q => q.imp (fun q => q.1) (fun q => q.1))) (c_X_set hlt hx0 hN1 hN5 hEm)) wm_2_188 wm_2_189 wm_1_0 wm_2_190 (by decide +kernel) ⟨(Nat.le_of_ble_eq_true rfl), (Nat.le_of_ble_eq_true rfl)⟩ rfl rfl (gh_pre hK hN hP hD hS hB hA hE hC) rfl hl.1 rfl (Nat.le_of_ble_eq_true rfl) d_L_law_876 ⟨(by show _ ≤ 601024; omega), (by show _ ≤ 7292999; omega)⟩) hD hS hA (fun r w1 H locs hw hP hD hS => ?_)
  obtain ⟨o', c1, hM1, hQ⟩ := lo_set hN1 hN5 hX0 hw
  have hF1 : lm_F N R EM (fun k => iv_mat N (B k)) := iv_F hN5 hA0
  refine lv_istore (lv' := [(5, .int r), (4, .int (nI i)), (3, .ref o), (2, .ref (A2 0)), (1, .ref (A 0)), (0, .ref b)]) hx hb d_L_law_879 hl (by decide) rfl (fun ls hl => ?_)
  refine lv_aload_n hx hb d_L_law_881 rfl (lv_at hl 3 rfl) ?_
  refine lv_aload_n hx hb d_L_law_882 rfl (lv_at hl 5 rfl) ?_
  refine lv_iload hx hb d_L_law_883 (lv_at hl 1 rfl) ?_
  refine lv_iconst (v := nI 1) hx hb d_L_law_885 (by decide) ?_
  refine lv_iadd hx hb d_L_law_886 ?_
  refine gx_i (y := nI (i + 1)) (nI_add _ _) ?_
  refine gl_ld (j := i + 1) hx hb hX hbl hbA hS (by omega) hL d_L_law_887 ?_
  refine lv_aload_n hx hb d_L_law_888 rfl (lv_at hl 5 rfl) ?_
  refine lv_iload hx hb d_L_law_889 (lv_at hl 1 rfl) ?_
  refine lv_iconst (v := nI 2) hx hb d_L_law_891 (by decide) ?_
  refine lv_iadd hx hb d_L_law_892 ?_
  refine gx_i (y := nI (i + 2)) (nI_add _ _) ?_
  refine gl_ld (j := i + 2) hx hb hX hbl hbA hS (by omega) hL d_L_law_893 ?_
  refine lv_aload_n hx hb d_L_law_894 rfl (lv_at hl 5 rfl) ?_
  refine lv_iload hx hb d_L_law_895 (lv_at hl 1 rfl) ?_
  refine lv_iconst (v := nI 3) hx hb d_L_law_897 (by decide) ?_
  refine lv_iadd hx hb d_L_law_898 ?_
  refine gx_i (y := nI (i + 3)) (nI_add _ _) ?_
  refine gl_ld (j := i + 3) hx hb hX hbl hbA hS (by omega) hL d_L_law_899 ?_
  refine lv_aload_n hx hb d_L_law_900 rfl (lv_at hl 5 rfl) ?_
  refine lv_iload hx hb d_L_law_901 (lv_at hl 1 rfl) ?_
  refine lv_iconst (v := nI 4) hx hb d_L_law_903 (by decide) ?_
  refine lv_iadd hx hb d_L_law_904 ?_
  refine gx_i (y := nI (i + 4)) (nI_add _ _) ?_
  refine gl_ld (j := i + 4) hx hb hX hbl hbA hS (by omega) hL d_L_law_905 ?_
  refine lv_i2l (v := (xs (i + 4)).toInt64) hx hb d_L_law_906 rfl ?_
  refine lv_bipush (v := nI 32) hx hb d_L_law_907 (by decide) ?_
  refine lv_lshl (v := ((xs (i + 4)).toInt64) <<< ((nI 32).toInt64 &&& 63)) hx hb d_L_law_909 rfl ?_
  refine lv_aload_n hx hb d_L_law_910 rfl (lv_at hl 5 rfl) ?_
  refine lv_iload hx hb d_L_law_911 (lv_at hl 1 rfl) ?_
  refine lv_iconst (v := nI 5) hx hb d_L_law_913 (by decide) ?_
  refine lv_iadd hx hb d_L_law_914 ?_
  refine gx_i (y := nI (i + 5)) (nI_add _ _) ?_
  refine gl_ld (j := i + 5) hx hb hX hbl hbA hS (by omega) hL d_L_law_915 ?_
  refine lv_i2l (v := (xs (i + 5)).toInt64) hx hb d_L_law_916 rfl ?_
  refine lv_ldc2 (v := (4294967295 : Int64)) hx hb hown (hts _ (hT _ wm_4_120)) d_L_law_917 ?_
  refine lv_land hx hb d_L_law_920 ?_
  refine lv_lor hx hb d_L_law_921 ?_
  refine gw_ci (gc_L_141 (As := [.int (xs (i + 1)), .int (xs (i + 2)), .int (xs (i + 3)), .long ((((xs (i + 4)).toInt64) <<< ((nI 32).toInt64 &&& 63)) ||| (((xs (i + 5)).toInt64) &&& (4294967295 : Int64)))]) (rest := []) hF hT (c_M_set hM1 hN1 hN5 hF1 c1) ⟨(Nat.le_of_ble_eq_true rfl), (Nat.le_of_ble_eq_true rfl)⟩ rfl rfl hK hN hP hD hM1.obj rfl hl.1 rfl (Nat.le_of_ble_eq_true rfl) d_L_law_922 ⟨(by show _ ≤ 601024; omega), (by show _ ≤ 7292999; omega)⟩) hD hS hA (fun r' w2 H locs hw2 hP hD hS => ?_)
  obtain ⟨⟨⟨nm, hobj⟩, hLI⟩, f2, ho2, hv⟩ := hQ r' w2 hw2
  refine lv_istore (lv' := [(6, .int r'), (5, .int r), (4, .int (nI i)), (3, .ref o), (2, .ref (A2 0)), (1, .ref (A 0)), (0, .ref b)]) hx hb d_L_law_925 hl (by decide) rfl (fun ls hl => ?_)
  refine lv_aload_n hx hb d_L_law_927 rfl (lv_at hl 4 rfl) ?_
  refine gw_ci0 (gc_L_106 (As := []) (rest := []) hF hT (c_M_thrown hobj hN1 hN5) ⟨(Nat.le_of_ble_eq_true rfl), (Nat.le_of_ble_eq_true rfl)⟩ rfl rfl hK hN hP hD hobj rfl hl.1 rfl (Nat.le_of_ble_eq_true rfl) d_L_law_928 ⟨(by show _ ≤ 601024; omega), (by show _ ≤ 7292999; omega)⟩) hD hS hA (fun r3 H locs e3 hP hD hS => ?_)
  subst e3
  refine lv_iload hx hb d_L_law_931 (lv_at hl 1 rfl) ?_
  refine lv_icmp_eq (tgt := 938) hx hb d_L_law_933 (by decide) (fun c => ?_) (fun c => absurd rfl c)
  refine lv_iload hx hb d_L_law_938 (lv_at hl 1 rfl) ?_
  refine lv_if_ne (tgt := 955) hx hb d_L_law_940 (by decide) (fun c => ?_) (fun c => ?_)
  · refine lv_goto (tgt := 1727) hx hb d_L_law_955 (by decide) ?_
    refine W.widen (k := cells + 5) (n := slots + 30) (by omega) (by omega) ?_
    exact kk _ _ _ _ hLI hP hD hS (lv_sub hl [2, 3, 4, 5, 6] rfl)
  · refine lv_aload_n hx hb d_L_law_943 rfl (lv_at hl 3 rfl) ?_
    refine lv_iconst (v := nI 0) hx hb d_L_law_944 (by decide) ?_
    refine g_lald (t0 := 0) (k := 0) hx hb hK hP ho2 rfl (by omega) (by omega) d_L_law_945 ?_
    refine lv_iload hx hb d_L_law_946 (lv_at hl 0 rfl) ?_
    refine lv_i2l (v := (r').toInt64) hx hb d_L_law_948 rfl ?_
    refine gx_leq (tgt := 955) hx hb d_L_law_949 d_L_law_950 (by decide) (fun c8 => ?_) (fun c8 => absurd (hv (c.trans nI_0.symm)) c8)
    refine lv_goto (tgt := 1727) hx hb d_L_law_955 (by decide) ?_
    refine W.widen (k := cells + 5) (n := slots + 30) (by omega) (by omega) ?_
    exact kk _ _ _ _ hLI hP hD hS (lv_sub hl [2, 3, 4, 5, 6] rfl)

set_option maxHeartbeats 4000000 in
set_option maxRecDepth 100000 in
theorem lc_forget {p : Program} {l : Launch} {e : Env} {s : State} {m : MethodId} {below : List Frame} {meth : Method} {c : Code} {b L : Nat} {xs : Nat → Int32} {D : va_G} {cJ cI cZ cS : ClassId} {A A2 : Nat → Nat} {o N : Nat} {sf : Nat → Option Nat} {i : Nat} {w : va_W} {H : Heap} {locs : List Loc} {cells slots : Nat} {ls : Array Slot} {Q : State → Prop} (hlt : l.stackTraces = false) (hF : CallFix p m c code 8 s #[Value.ref b] lw_tbl R_L) (hK : va_K D classes (gT cJ cI cZ cS) s) (hN : gN s) (hE : gE s.heap.size s s.heap) (hC : gC s) (hX : va_X b L xs s s.heap) (hbl : b < s.heap.size) (hi : i + 6 ≤ L) (hL : L ≤ 3073) (hN1 : 1 ≤ N) (hN5 : N ≤ 5) (hI : LI cJ cI cZ cS A A2 o N sf w) (hP : va_P D classes w H) (hD : va_D (va_A [] s.heap.size) w) (hS : va_S (va_A [] s.heap.size) s.heap H locs) (hc : cells + 5 ≤ 601024) (hs : slots + 30 ≤ 7292999) (hl : lv_has ls 8 [(4, .int (nI i)), (3, .ref o), (2, .ref (A2 0)), (1, .ref (A 0)), (0, .ref b)]) (kk : ∀ (w : va_W) (H : Heap) (locs : List Loc) (ls : Array Slot), LI cJ cI cZ cS A A2 o N sf w → va_P D classes w H → va_D (va_A [] s.heap.size) w → va_S (va_A [] s.heap.size) s.heap H locs → lv_has ls 8 [(4, .int (nI i)), (3, .ref o), (2, .ref (A2 0)), (1, .ref (A 0)), (0, .ref b)] → W p l e room_1 s m #[Value.ref b] below meth c H locs (cells + 5) (slots + 30) Q (F0 m 1727 ls [])) : W p l e room_1 s m #[Value.ref b] below meth c H locs cells slots Q (F0 m 958 ls []) := by
  have hx := hF.1
  have hb := hF.2.1
  have hown := hF.2.2.2.1
  have hts := hF.2.2.2.2
  have hT : ∀ w ∈ wG, w ∈ lw_tbl := fun w h => (List.mem_filter.mp h).1
  have hA : ∀ q, s.heap.size ≤ q → va_A [] s.heap.size q := fun q h => Or.inr h
  have hB : ∀ q, va_A [] s.heap.size q → s.heap.size ≤ q := fun q h => by
    rcases h with ⟨k, e, h⟩ | h
    · exact absurd h (by simp)
    · exact h
  have hbA : ¬ va_A [] s.heap.size b := fun h => Nat.not_le.mpr hbl (hB b h)
  obtain ⟨K, B, E, Km, Bm, Em, Lf, Tr, nu, ne, m1, th, R, EM, Pt, nA, nB, nC, hX0⟩ := hI
  have hx0 := hX0.1
  obtain ⟨f, ho⟩ := hX0.2.2.1
  have hA0 := hX0.2.2.2.1
  have hEm := hX0.2.2.2.2.2.2.1
  have hm1 := hX0.2.2.2.2.2.2.2
  refine lv_aload_n hx hb d_L_law_958 rfl (lv_at hl 3 rfl) ?_
  refine lv_aload_n hx hb d_L_law_959 rfl (lv_at hl 4 rfl) ?_
  refine lv_iload hx hb d_L_law_960 (lv_at hl 0 rfl) ?_
  refine lv_iconst (v := nI 1) hx hb d_L_law_962 (by decide) ?_
  refine lv_iadd hx hb d_L_law_963 ?_
  refine gx_i (y := nI (i + 1)) (nI_add _ _) ?_
  refine gl_ld (j := i + 1) hx hb hX hbl hbA hS (by omega) hL d_L_law_964 ?_
  refine lv_aload_n hx hb d_L_law_965 rfl (lv_at hl 4 rfl) ?_
  refine lv_iload hx hb d_L_law_966 (lv_at hl 0 rfl) ?_
  refine lv_iconst (v := nI 2) hx hb d_L_law_968 (by decide) ?_
  refine lv_iadd hx hb d_L_law_969 ?_
  refine gx_i (y := nI (i + 2)) (nI_add _ _) ?_
  refine gl_ld (j := i + 2) hx hb hX hbl hbA hS (by omega) hL d_L_law_970 ?_
  refine lv_aload_n hx hb d_L_law_971 rfl (lv_at hl 1 rfl) ?_
  refine gw_ci (gh_rS (n := 4) (As := [.ref (A 0), .int (xs (i + 1)), .int (xs (i + 2)), .ref o]) (rest := []) hF hT (hc_forget (q0 := 0) (bo := 64) (o := o) (f := f) hx0.1 ho (fun r w h => by obtain ⟨_, k, _, _, _, _, _, _, _, _, _, _, _, h4⟩ := h; exact h4.1 64 (Or.inr (by omega))) (fun Z w h => h.elim (fun q => q.1) (fun ⟨_, ⟨_, hy⟩, k, hk, _, K1, B1, E1, h1, ⟨e1, e2⟩, _⟩ => by obtain ⟨k1, a1, a2, e9⟩ := hy.k hN5; rw [e9] at h1; exact absurd e2 (iv_forget_nf hN5 hA0 hk a1 a2 h1 e1))) (c_X_forget hlt hx0 hN1 hN5 hEm)) wm_2_215 wm_2_216 wm_1_0 wm_2_217 (by decide +kernel) ⟨(Nat.le_of_ble_eq_true rfl), (Nat.le_of_ble_eq_true rfl)⟩ rfl rfl (gh_pre hK hN hP hD hS hB hA hE hC) rfl hl.1 rfl (Nat.le_of_ble_eq_true rfl) d_L_law_972 ⟨(by show _ ≤ 601024; omega), (by show _ ≤ 7292999; omega)⟩) hD hS hA (fun r w1 H locs hw hP hD hS => ?_)
  obtain ⟨o', c1, hM1, hQ⟩ := lo_forget hN1 hN5 hX0 hw
  have hF1 : lm_F N R EM (fun k => iv_mat N (B k)) := iv_F hN5 hA0
  refine lv_istore (lv' := [(5, .int r), (4, .int (nI i)), (3, .ref o), (2, .ref (A2 0)), (1, .ref (A 0)), (0, .ref b)]) hx hb d_L_law_975 hl (by decide) rfl (fun ls hl => ?_)
  refine lv_aload_n hx hb d_L_law_977 rfl (lv_at hl 3 rfl) ?_
  refine lv_aload_n hx hb d_L_law_978 rfl (lv_at hl 5 rfl) ?_
  refine lv_iload hx hb d_L_law_979 (lv_at hl 1 rfl) ?_
  refine lv_iconst (v := nI 1) hx hb d_L_law_981 (by decide) ?_
  refine lv_iadd hx hb d_L_law_982 ?_
  refine gx_i (y := nI (i + 1)) (nI_add _ _) ?_
  refine gl_ld (j := i + 1) hx hb hX hbl hbA hS (by omega) hL d_L_law_983 ?_
  refine lv_aload_n hx hb d_L_law_984 rfl (lv_at hl 5 rfl) ?_
  refine lv_iload hx hb d_L_law_985 (lv_at hl 1 rfl) ?_
  refine lv_iconst (v := nI 2) hx hb d_L_law_987 (by decide) ?_
  refine lv_iadd hx hb d_L_law_988 ?_
  refine gx_i (y := nI (i + 2)) (nI_add _ _) ?_
  refine gl_ld (j := i + 2) hx hb hX hbl hbA hS (by omega) hL d_L_law_989 ?_
  refine gw_ci (gc_L_145 (As := [.int (xs (i + 1)), .int (xs (i + 2))]) (rest := []) hF hT (c_M_forget hM1 hN1 hN5 hF1 c1) ⟨(Nat.le_of_ble_eq_true rfl), (Nat.le_of_ble_eq_true rfl)⟩ rfl rfl hK hN hP hD hM1.obj rfl hl.1 rfl (Nat.le_of_ble_eq_true rfl) d_L_law_990 ⟨(by show _ ≤ 601024; omega), (by show _ ≤ 7292999; omega)⟩) hD hS hA (fun r' w2 H locs hw2 hP hD hS => ?_)
  obtain ⟨⟨⟨nm, hobj⟩, hLI⟩, f2, ho2, hv⟩ := hQ r' w2 hw2
  refine lv_istore (lv' := [(6, .int r'), (5, .int r), (4, .int (nI i)), (3, .ref o), (2, .ref (A2 0)), (1, .ref (A 0)), (0, .ref b)]) hx hb d_L_law_993 hl (by decide) rfl (fun ls hl => ?_)
  refine lv_aload_n hx hb d_L_law_995 rfl (lv_at hl 4 rfl) ?_
  refine gw_ci0 (gc_L_106 (As := []) (rest := []) hF hT (c_M_thrown hobj hN1 hN5) ⟨(Nat.le_of_ble_eq_true rfl), (Nat.le_of_ble_eq_true rfl)⟩ rfl rfl hK hN hP hD hobj rfl hl.1 rfl (Nat.le_of_ble_eq_true rfl) d_L_law_996 ⟨(by show _ ≤ 601024; omega), (by show _ ≤ 7292999; omega)⟩) hD hS hA (fun r3 H locs e3 hP hD hS => ?_)
  subst e3
  refine lv_iload hx hb d_L_law_999 (lv_at hl 1 rfl) ?_
  refine lv_icmp_eq (tgt := 1006) hx hb d_L_law_1001 (by decide) (fun c => ?_) (fun c => absurd rfl c)
  refine lv_iload hx hb d_L_law_1006 (lv_at hl 1 rfl) ?_
  refine lv_if_ne (tgt := 1023) hx hb d_L_law_1008 (by decide) (fun c => ?_) (fun c => ?_)
  · refine lv_goto (tgt := 1727) hx hb d_L_law_1023 (by decide) ?_
    refine W.widen (k := cells + 5) (n := slots + 30) (by omega) (by omega) ?_
    exact kk _ _ _ _ hLI hP hD hS (lv_sub hl [2, 3, 4, 5, 6] rfl)
  · refine lv_aload_n hx hb d_L_law_1011 rfl (lv_at hl 3 rfl) ?_
    refine lv_iconst (v := nI 0) hx hb d_L_law_1012 (by decide) ?_
    refine g_lald (t0 := 0) (k := 0) hx hb hK hP ho2 rfl (by omega) (by omega) d_L_law_1013 ?_
    refine lv_iload hx hb d_L_law_1014 (lv_at hl 0 rfl) ?_
    refine lv_i2l (v := (r').toInt64) hx hb d_L_law_1016 rfl ?_
    refine gx_leq (tgt := 1023) hx hb d_L_law_1017 d_L_law_1018 (by decide) (fun c8 => ?_) (fun c8 => absurd (hv (c.trans nI_0.symm)) c8)
    refine lv_goto (tgt := 1727) hx hb d_L_law_1023 (by decide) ?_
    refine W.widen (k := cells + 5) (n := slots + 30) (by omega) (by omega) ?_
    exact kk _ _ _ _ hLI hP hD hS (lv_sub hl [2, 3, 4, 5, 6] rfl)

set_option maxHeartbeats 4000000 in
set_option maxRecDepth 100000 in
theorem lc_within {p : Program} {l : Launch} {e : Env} {s : State} {m : MethodId} {below : List Frame} {meth : Method} {c : Code} {b L : Nat} {xs : Nat → Int32} {D : va_G} {cJ cI cZ cS : ClassId} {A A2 : Nat → Nat} {o N : Nat} {sf : Nat → Option Nat} {i : Nat} {w : va_W} {H : Heap} {locs : List Loc} {cells slots : Nat} {ls : Array Slot} {Q : State → Prop} (hlt : l.stackTraces = false) (hF : CallFix p m c code 8 s #[Value.ref b] lw_tbl R_L) (hK : va_K D classes (gT cJ cI cZ cS) s) (hN : gN s) (hE : gE s.heap.size s s.heap) (hC : gC s) (hX : va_X b L xs s s.heap) (hbl : b < s.heap.size) (hi : i + 6 ≤ L) (hL : L ≤ 3073) (hN1 : 1 ≤ N) (hN5 : N ≤ 5) (hI : LI cJ cI cZ cS A A2 o N sf w) (hP : va_P D classes w H) (hD : va_D (va_A [] s.heap.size) w) (hS : va_S (va_A [] s.heap.size) s.heap H locs) (hc : cells + 5 ≤ 601024) (hs : slots + 30 ≤ 7292999) (hl : lv_has ls 8 [(4, .int (nI i)), (3, .ref o), (2, .ref (A2 0)), (1, .ref (A 0)), (0, .ref b)]) (kk : ∀ (w : va_W) (H : Heap) (locs : List Loc) (ls : Array Slot), LI cJ cI cZ cS A A2 o N sf w → va_P D classes w H → va_D (va_A [] s.heap.size) w → va_S (va_A [] s.heap.size) s.heap H locs → lv_has ls 8 [(4, .int (nI i)), (3, .ref o), (2, .ref (A2 0)), (1, .ref (A 0)), (0, .ref b)] → W p l e room_1 s m #[Value.ref b] below meth c H locs (cells + 5) (slots + 30) Q (F0 m 1727 ls [])) : W p l e room_1 s m #[Value.ref b] below meth c H locs cells slots Q (F0 m 1026 ls []) := by
  have hx := hF.1
  have hb := hF.2.1
  have hown := hF.2.2.2.1
  have hts := hF.2.2.2.2
  have hT : ∀ w ∈ wG, w ∈ lw_tbl := fun w h => (List.mem_filter.mp h).1
  have hA : ∀ q, s.heap.size ≤ q → va_A [] s.heap.size q := fun q h => Or.inr h
  have hB : ∀ q, va_A [] s.heap.size q → s.heap.size ≤ q := fun q h => by
    rcases h with ⟨k, e, h⟩ | h
    · exact absurd h (by simp)
    · exact h
  have hbA : ¬ va_A [] s.heap.size b := fun h => Nat.not_le.mpr hbl (hB b h)
  obtain ⟨K, B, E, Km, Bm, Em, Lf, Tr, nu, ne, m1, th, R, EM, Pt, nA, nB, nC, hX0⟩ := hI
  have hx0 := hX0.1
  obtain ⟨f, ho⟩ := hX0.2.2.1
  have hA0 := hX0.2.2.2.1
  have hEm := hX0.2.2.2.2.2.2.1
  have hm1 := hX0.2.2.2.2.2.2.2
  refine lv_aload_n hx hb d_L_law_1026 rfl (lv_at hl 3 rfl) ?_
  refine lv_aload_n hx hb d_L_law_1027 rfl (lv_at hl 4 rfl) ?_
  refine lv_iload hx hb d_L_law_1028 (lv_at hl 0 rfl) ?_
  refine lv_iconst (v := nI 1) hx hb d_L_law_1030 (by decide) ?_
  refine lv_iadd hx hb d_L_law_1031 ?_
  refine gx_i (y := nI (i + 1)) (nI_add _ _) ?_
  refine gl_ld (j := i + 1) hx hb hX hbl hbA hS (by omega) hL d_L_law_1032 ?_
  refine lv_aload_n hx hb d_L_law_1033 rfl (lv_at hl 4 rfl) ?_
  refine lv_iload hx hb d_L_law_1034 (lv_at hl 0 rfl) ?_
  refine lv_iconst (v := nI 2) hx hb d_L_law_1036 (by decide) ?_
  refine lv_iadd hx hb d_L_law_1037 ?_
  refine gx_i (y := nI (i + 2)) (nI_add _ _) ?_
  refine gl_ld (j := i + 2) hx hb hX hbl hbA hS (by omega) hL d_L_law_1038 ?_
  refine lv_aload_n hx hb d_L_law_1039 rfl (lv_at hl 1 rfl) ?_
  refine gw_ci (gh_rS (n := 4) (As := [.ref (A 0), .int (xs (i + 1)), .int (xs (i + 2)), .ref o]) (rest := []) hF hT (hc_within (q0 := 0) (bo := 64) (o := o) (f := f) hx0.1 ho (fun r w h => by rw [h.2]) (fun Z w h => h.1) (c_X_within hlt hx0 hN1 hN5)) wm_2_226 wm_2_227 wm_1_0 wm_2_228 (by decide +kernel) ⟨(Nat.le_of_ble_eq_true rfl), (Nat.le_of_ble_eq_true rfl)⟩ rfl rfl (gh_pre hK hN hP hD hS hB hA hE hC) rfl hl.1 rfl (Nat.le_of_ble_eq_true rfl) d_L_law_1040 ⟨(by show _ ≤ 601024; omega), (by show _ ≤ 7292999; omega)⟩) hD hS hA (fun r w1 H locs hw hP hD hS => ?_)
  obtain ⟨hM1, hQ⟩ := lo_within hN1 hN5 hX0 hw
  have hF1 : lm_F N R EM (fun k => iv_mat N (B k)) := iv_F hN5 hA0
  refine lv_istore (lv' := [(5, .int r), (4, .int (nI i)), (3, .ref o), (2, .ref (A2 0)), (1, .ref (A 0)), (0, .ref b)]) hx hb d_L_law_1043 hl (by decide) rfl (fun ls hl => ?_)
  refine lv_aload_n hx hb d_L_law_1045 rfl (lv_at hl 3 rfl) ?_
  refine lv_aload_n hx hb d_L_law_1046 rfl (lv_at hl 5 rfl) ?_
  refine lv_iload hx hb d_L_law_1047 (lv_at hl 1 rfl) ?_
  refine lv_iconst (v := nI 1) hx hb d_L_law_1049 (by decide) ?_
  refine lv_iadd hx hb d_L_law_1050 ?_
  refine gx_i (y := nI (i + 1)) (nI_add _ _) ?_
  refine gl_ld (j := i + 1) hx hb hX hbl hbA hS (by omega) hL d_L_law_1051 ?_
  refine lv_aload_n hx hb d_L_law_1052 rfl (lv_at hl 5 rfl) ?_
  refine lv_iload hx hb d_L_law_1053 (lv_at hl 1 rfl) ?_
  refine lv_iconst (v := nI 2) hx hb d_L_law_1055 (by decide) ?_
  refine lv_iadd hx hb d_L_law_1056 ?_
  refine gx_i (y := nI (i + 2)) (nI_add _ _) ?_
  refine gl_ld (j := i + 2) hx hb hX hbl hbA hS (by omega) hL d_L_law_1057 ?_
  refine gw_ci (gc_L_148 (As := [.int (xs (i + 1)), .int (xs (i + 2))]) (rest := []) hF hT (c_M_within hM1 hN1 hN5 hF1) ⟨(Nat.le_of_ble_eq_true rfl), (Nat.le_of_ble_eq_true rfl)⟩ rfl rfl hK hN hP hD hM1.obj rfl hl.1 rfl (Nat.le_of_ble_eq_true rfl) d_L_law_1058 ⟨(by show _ ≤ 601024; omega), (by show _ ≤ 7292999; omega)⟩) hD hS hA (fun r' w2 H locs hw2 hP hD hS => ?_)
  obtain ⟨⟨⟨nm, hobj⟩, hLI⟩, f2, ho2, hv⟩ := hQ r' w2 hw2
  refine lv_istore (lv' := [(6, .int r'), (5, .int r), (4, .int (nI i)), (3, .ref o), (2, .ref (A2 0)), (1, .ref (A 0)), (0, .ref b)]) hx hb d_L_law_1061 hl (by decide) rfl (fun ls hl => ?_)
  refine lv_aload_n hx hb d_L_law_1063 rfl (lv_at hl 4 rfl) ?_
  refine gw_ci0 (gc_L_106 (As := []) (rest := []) hF hT (c_M_thrown hobj hN1 hN5) ⟨(Nat.le_of_ble_eq_true rfl), (Nat.le_of_ble_eq_true rfl)⟩ rfl rfl hK hN hP hD hobj rfl hl.1 rfl (Nat.le_of_ble_eq_true rfl) d_L_law_1064 ⟨(by show _ ≤ 601024; omega), (by show _ ≤ 7292999; omega)⟩) hD hS hA (fun r3 H locs e3 hP hD hS => ?_)
  subst e3
  refine lv_iload hx hb d_L_law_1067 (lv_at hl 1 rfl) ?_
  refine lv_icmp_eq (tgt := 1074) hx hb d_L_law_1069 (by decide) (fun c => ?_) (fun c => absurd rfl c)
  refine lv_iload hx hb d_L_law_1074 (lv_at hl 1 rfl) ?_
  refine lv_if_ne (tgt := 1098) hx hb d_L_law_1076 (by decide) (fun c => ?_) (fun c => ?_)
  · refine lv_goto (tgt := 1727) hx hb d_L_law_1098 (by decide) ?_
    refine W.widen (k := cells + 5) (n := slots + 30) (by omega) (by omega) ?_
    exact kk _ _ _ _ hLI hP hD hS (lv_sub hl [2, 3, 4, 5, 6] rfl)
  · refine lv_aload_n hx hb d_L_law_1079 rfl (lv_at hl 3 rfl) ?_
    refine lv_iconst (v := nI 0) hx hb d_L_law_1080 (by decide) ?_
    refine g_lald (t0 := 0) (k := 0) hx hb hK hP ho2 rfl (by omega) (by omega) d_L_law_1081 ?_
    refine lv_iload hx hb d_L_law_1082 (lv_at hl 0 rfl) ?_
    refine lv_if_eq (tgt := 1091) hx hb d_L_law_1084 (by decide) (fun c9 => ?_) (fun c9 => ?_)
    · refine lv_lconst (v := 0) hx hb d_L_law_1091 rfl ?_
      refine gx_leq (tgt := 1098) hx hb d_L_law_1092 d_L_law_1093 (by decide) (fun c8 => ?_) (fun c8 => absurd ((hv (c.trans nI_0.symm)).trans (if_pos c9)) c8)
      refine lv_goto (tgt := 1727) hx hb d_L_law_1098 (by decide) ?_
      refine W.widen (k := cells + 5) (n := slots + 30) (by omega) (by omega) ?_
      exact kk _ _ _ _ hLI hP hD hS (lv_sub hl [2, 3, 4, 5, 6] rfl)
    · refine lv_lconst (v := 1) hx hb d_L_law_1087 rfl ?_
      refine lv_goto (tgt := 1092) hx hb d_L_law_1088 (by decide) ?_
      refine gx_leq (tgt := 1098) hx hb d_L_law_1092 d_L_law_1093 (by decide) (fun c8 => ?_) (fun c8 => absurd ((hv (c.trans nI_0.symm)).trans (if_neg c9)) c8)
      refine lv_goto (tgt := 1727) hx hb d_L_law_1098 (by decide) ?_
      refine W.widen (k := cells + 5) (n := slots + 30) (by omega) (by omega) ?_
      exact kk _ _ _ _ hLI hP hD hS (lv_sub hl [2, 3, 4, 5, 6] rfl)

set_option maxHeartbeats 4000000 in
set_option maxRecDepth 100000 in
theorem lc_put {p : Program} {l : Launch} {e : Env} {s : State} {m : MethodId} {below : List Frame} {meth : Method} {c : Code} {b L : Nat} {xs : Nat → Int32} {D : va_G} {cJ cI cZ cS : ClassId} {A A2 : Nat → Nat} {o N : Nat} {sf : Nat → Option Nat} {i : Nat} {w : va_W} {H : Heap} {locs : List Loc} {cells slots : Nat} {ls : Array Slot} {Q : State → Prop} (hlt : l.stackTraces = false) (hF : CallFix p m c code 8 s #[Value.ref b] lw_tbl R_L) (hK : va_K D classes (gT cJ cI cZ cS) s) (hN : gN s) (hE : gE s.heap.size s s.heap) (hC : gC s) (hX : va_X b L xs s s.heap) (hbl : b < s.heap.size) (hi : i + 6 ≤ L) (hL : L ≤ 3073) (hN1 : 1 ≤ N) (hN5 : N ≤ 5) (hI : LI cJ cI cZ cS A A2 o N sf w) (hP : va_P D classes w H) (hD : va_D (va_A [] s.heap.size) w) (hS : va_S (va_A [] s.heap.size) s.heap H locs) (hc : cells + 5 ≤ 601024) (hs : slots + 30 ≤ 7292999) (hl : lv_has ls 8 [(4, .int (nI i)), (3, .ref o), (2, .ref (A2 0)), (1, .ref (A 0)), (0, .ref b)]) (kk : ∀ (w : va_W) (H : Heap) (locs : List Loc) (ls : Array Slot), LI cJ cI cZ cS A A2 o N sf w → va_P D classes w H → va_D (va_A [] s.heap.size) w → va_S (va_A [] s.heap.size) s.heap H locs → lv_has ls 8 [(4, .int (nI i)), (3, .ref o), (2, .ref (A2 0)), (1, .ref (A 0)), (0, .ref b)] → W p l e room_1 s m #[Value.ref b] below meth c H locs (cells + 5) (slots + 30) Q (F0 m 1727 ls [])) : W p l e room_1 s m #[Value.ref b] below meth c H locs cells slots Q (F0 m 1101 ls []) := by
  have hx := hF.1
  have hb := hF.2.1
  have hown := hF.2.2.2.1
  have hts := hF.2.2.2.2
  have hT : ∀ w ∈ wG, w ∈ lw_tbl := fun w h => (List.mem_filter.mp h).1
  have hA : ∀ q, s.heap.size ≤ q → va_A [] s.heap.size q := fun q h => Or.inr h
  have hB : ∀ q, va_A [] s.heap.size q → s.heap.size ≤ q := fun q h => by
    rcases h with ⟨k, e, h⟩ | h
    · exact absurd h (by simp)
    · exact h
  have hbA : ¬ va_A [] s.heap.size b := fun h => Nat.not_le.mpr hbl (hB b h)
  obtain ⟨K, B, E, Km, Bm, Em, Lf, Tr, nu, ne, m1, th, R, EM, Pt, nA, nB, nC, hX0⟩ := hI
  have hx0 := hX0.1
  obtain ⟨f, ho⟩ := hX0.2.2.1
  have hA0 := hX0.2.2.2.1
  have hEm := hX0.2.2.2.2.2.2.1
  have hm1 := hX0.2.2.2.2.2.2.2
  refine lv_aload_n hx hb d_L_law_1101 rfl (lv_at hl 3 rfl) ?_
  refine lv_aload_n hx hb d_L_law_1102 rfl (lv_at hl 4 rfl) ?_
  refine lv_iload hx hb d_L_law_1103 (lv_at hl 0 rfl) ?_
  refine lv_iconst (v := nI 1) hx hb d_L_law_1105 (by decide) ?_
  refine lv_iadd hx hb d_L_law_1106 ?_
  refine gx_i (y := nI (i + 1)) (nI_add _ _) ?_
  refine gl_ld (j := i + 1) hx hb hX hbl hbA hS (by omega) hL d_L_law_1107 ?_
  refine lv_aload_n hx hb d_L_law_1108 rfl (lv_at hl 4 rfl) ?_
  refine lv_iload hx hb d_L_law_1109 (lv_at hl 0 rfl) ?_
  refine lv_iconst (v := nI 2) hx hb d_L_law_1111 (by decide) ?_
  refine lv_iadd hx hb d_L_law_1112 ?_
  refine gx_i (y := nI (i + 2)) (nI_add _ _) ?_
  refine gl_ld (j := i + 2) hx hb hX hbl hbA hS (by omega) hL d_L_law_1113 ?_
  refine lv_i2l (v := (xs (i + 2)).toInt64) hx hb d_L_law_1114 rfl ?_
  refine lv_bipush (v := nI 32) hx hb d_L_law_1115 (by decide) ?_
  refine lv_lshl (v := ((xs (i + 2)).toInt64) <<< ((nI 32).toInt64 &&& 63)) hx hb d_L_law_1117 rfl ?_
  refine lv_aload_n hx hb d_L_law_1118 rfl (lv_at hl 4 rfl) ?_
  refine lv_iload hx hb d_L_law_1119 (lv_at hl 0 rfl) ?_
  refine lv_iconst (v := nI 3) hx hb d_L_law_1121 (by decide) ?_
  refine lv_iadd hx hb d_L_law_1122 ?_
  refine gx_i (y := nI (i + 3)) (nI_add _ _) ?_
  refine gl_ld (j := i + 3) hx hb hX hbl hbA hS (by omega) hL d_L_law_1123 ?_
  refine lv_i2l (v := (xs (i + 3)).toInt64) hx hb d_L_law_1124 rfl ?_
  refine lv_ldc2 (v := (4294967295 : Int64)) hx hb hown (hts _ (hT _ wm_4_120)) d_L_law_1125 ?_
  refine lv_land hx hb d_L_law_1128 ?_
  refine lv_lor hx hb d_L_law_1129 ?_
  refine lv_aload_n hx hb d_L_law_1130 rfl (lv_at hl 1 rfl) ?_
  refine gw_ci (gh_rS (n := 4) (As := [.ref (A 0), .int (xs (i + 1)), .long ((((xs (i + 2)).toInt64) <<< ((nI 32).toInt64 &&& 63)) ||| (((xs (i + 3)).toInt64) &&& (4294967295 : Int64))), .ref o]) (rest := []) hF hT (hc_put (q0 := 0) (bo := 64) (o := o) (f := f) hx0.1 ho (fun r w h => by obtain ⟨_, _, k, _, _, _, _, _, h4⟩ := h; exact h4.1 64 (Or.inr (by omega))) (fun Z w h => h.imp (fun q => q.1) (fun q => q.1)) (c_X_put hlt hx0 hN1 hN5 hEm)) wm_2_237 wm_2_238 wm_1_0 wm_2_239 (by decide +kernel) ⟨(Nat.le_of_ble_eq_true rfl), (Nat.le_of_ble_eq_true rfl)⟩ rfl rfl (gh_pre hK hN hP hD hS hB hA hE hC) rfl hl.1 rfl (Nat.le_of_ble_eq_true rfl) d_L_law_1131 ⟨(by show _ ≤ 601024; omega), (by show _ ≤ 7292999; omega)⟩) hD hS hA (fun r w1 H locs hw hP hD hS => ?_)
  obtain ⟨hM1, hQ⟩ := lo_put hN1 hN5 hX0 hw
  have hF1 : lm_F N R EM (fun k => iv_mat N (B k)) := iv_F hN5 hA0
  refine lv_istore (lv' := [(5, .int r), (4, .int (nI i)), (3, .ref o), (2, .ref (A2 0)), (1, .ref (A 0)), (0, .ref b)]) hx hb d_L_law_1134 hl (by decide) rfl (fun ls hl => ?_)
  refine lv_aload_n hx hb d_L_law_1136 rfl (lv_at hl 3 rfl) ?_
  refine lv_aload_n hx hb d_L_law_1137 rfl (lv_at hl 5 rfl) ?_
  refine lv_iload hx hb d_L_law_1138 (lv_at hl 1 rfl) ?_
  refine lv_iconst (v := nI 1) hx hb d_L_law_1140 (by decide) ?_
  refine lv_iadd hx hb d_L_law_1141 ?_
  refine gx_i (y := nI (i + 1)) (nI_add _ _) ?_
  refine gl_ld (j := i + 1) hx hb hX hbl hbA hS (by omega) hL d_L_law_1142 ?_
  refine lv_aload_n hx hb d_L_law_1143 rfl (lv_at hl 5 rfl) ?_
  refine lv_iload hx hb d_L_law_1144 (lv_at hl 1 rfl) ?_
  refine lv_iconst (v := nI 2) hx hb d_L_law_1146 (by decide) ?_
  refine lv_iadd hx hb d_L_law_1147 ?_
  refine gx_i (y := nI (i + 2)) (nI_add _ _) ?_
  refine gl_ld (j := i + 2) hx hb hX hbl hbA hS (by omega) hL d_L_law_1148 ?_
  refine lv_i2l (v := (xs (i + 2)).toInt64) hx hb d_L_law_1149 rfl ?_
  refine lv_bipush (v := nI 32) hx hb d_L_law_1150 (by decide) ?_
  refine lv_lshl (v := ((xs (i + 2)).toInt64) <<< ((nI 32).toInt64 &&& 63)) hx hb d_L_law_1152 rfl ?_
  refine lv_aload_n hx hb d_L_law_1153 rfl (lv_at hl 5 rfl) ?_
  refine lv_iload hx hb d_L_law_1154 (lv_at hl 1 rfl) ?_
  refine lv_iconst (v := nI 3) hx hb d_L_law_1156 (by decide) ?_
  refine lv_iadd hx hb d_L_law_1157 ?_
  refine gx_i (y := nI (i + 3)) (nI_add _ _) ?_
  refine gl_ld (j := i + 3) hx hb hX hbl hbA hS (by omega) hL d_L_law_1158 ?_
  refine lv_i2l (v := (xs (i + 3)).toInt64) hx hb d_L_law_1159 rfl ?_
  refine lv_ldc2 (v := (4294967295 : Int64)) hx hb hown (hts _ (hT _ wm_4_120)) d_L_law_1160 ?_
  refine lv_land hx hb d_L_law_1163 ?_
  refine lv_lor hx hb d_L_law_1164 ?_
  refine gw_cl (gc_L_152 (As := [.int (xs (i + 1)), .long ((((xs (i + 2)).toInt64) <<< ((nI 32).toInt64 &&& 63)) ||| (((xs (i + 3)).toInt64) &&& (4294967295 : Int64)))]) (rest := []) hF hT (c_M_put hM1 hN1 hN5) ⟨(Nat.le_of_ble_eq_true rfl), (Nat.le_of_ble_eq_true rfl)⟩ rfl rfl hK hN hP hD hM1.obj rfl hl.1 rfl (Nat.le_of_ble_eq_true rfl) d_L_law_1165 ⟨(by show _ ≤ 601024; omega), (by show _ ≤ 7292999; omega)⟩) hD hS hA (fun r' w2 H locs hw2 hP hD hS => ?_)
  obtain ⟨⟨⟨nm, hobj⟩, hLI⟩, f2, ho2, hv⟩ := hQ r' w2 hw2
  refine lv_lstore (lv' := [(6, .long r'), (5, .int r), (4, .int (nI i)), (3, .ref o), (2, .ref (A2 0)), (1, .ref (A 0)), (0, .ref b)]) hx hb d_L_law_1168 hl (by decide) rfl (fun ls hl => ?_)
  refine lv_aload_n hx hb d_L_law_1170 rfl (lv_at hl 4 rfl) ?_
  refine gw_ci0 (gc_L_106 (As := []) (rest := []) hF hT (c_M_thrown hobj hN1 hN5) ⟨(Nat.le_of_ble_eq_true rfl), (Nat.le_of_ble_eq_true rfl)⟩ rfl rfl hK hN hP hD hobj rfl hl.1 rfl (Nat.le_of_ble_eq_true rfl) d_L_law_1171 ⟨(by show _ ≤ 601024; omega), (by show _ ≤ 7292999; omega)⟩) hD hS hA (fun r3 H locs e3 hP hD hS => ?_)
  subst e3
  refine lv_iload hx hb d_L_law_1174 (lv_at hl 1 rfl) ?_
  refine lv_icmp_eq (tgt := 1181) hx hb d_L_law_1176 (by decide) (fun c => ?_) (fun c => absurd rfl c)
  refine lv_iload hx hb d_L_law_1181 (lv_at hl 1 rfl) ?_
  refine lv_if_ne (tgt := 1197) hx hb d_L_law_1183 (by decide) (fun c => ?_) (fun c => ?_)
  · refine lv_goto (tgt := 1727) hx hb d_L_law_1197 (by decide) ?_
    refine W.widen (k := cells + 5) (n := slots + 30) (by omega) (by omega) ?_
    exact kk _ _ _ _ hLI hP hD hS (lv_sub hl [2, 3, 4, 5, 6] rfl)
  · refine lv_aload_n hx hb d_L_law_1186 rfl (lv_at hl 3 rfl) ?_
    refine lv_iconst (v := nI 0) hx hb d_L_law_1187 (by decide) ?_
    refine g_lald (t0 := 0) (k := 0) hx hb hK hP ho2 rfl (by omega) (by omega) d_L_law_1188 ?_
    refine lv_lload hx hb d_L_law_1189 (lv_at hl 0 rfl) ?_
    refine gx_leq (tgt := 1197) hx hb d_L_law_1191 d_L_law_1192 (by decide) (fun c8 => ?_) (fun c8 => absurd (hv (c.trans nI_0.symm)) c8)
    refine lv_goto (tgt := 1727) hx hb d_L_law_1197 (by decide) ?_
    refine W.widen (k := cells + 5) (n := slots + 30) (by omega) (by omega) ?_
    exact kk _ _ _ _ hLI hP hD hS (lv_sub hl [2, 3, 4, 5, 6] rfl)

set_option maxHeartbeats 4000000 in
set_option maxRecDepth 100000 in
theorem lc_point {p : Program} {l : Launch} {e : Env} {s : State} {m : MethodId} {below : List Frame} {meth : Method} {c : Code} {b L : Nat} {xs : Nat → Int32} {D : va_G} {cJ cI cZ cS : ClassId} {A A2 : Nat → Nat} {o N : Nat} {sf : Nat → Option Nat} {i : Nat} {w : va_W} {H : Heap} {locs : List Loc} {cells slots : Nat} {ls : Array Slot} {Q : State → Prop} (hlt : l.stackTraces = false) (hF : CallFix p m c code 8 s #[Value.ref b] lw_tbl R_L) (hK : va_K D classes (gT cJ cI cZ cS) s) (hN : gN s) (hE : gE s.heap.size s s.heap) (hC : gC s) (hX : va_X b L xs s s.heap) (hbl : b < s.heap.size) (hi : i + 6 ≤ L) (hL : L ≤ 3073) (hN1 : 1 ≤ N) (hN5 : N ≤ 5) (hI : LI cJ cI cZ cS A A2 o N sf w) (hP : va_P D classes w H) (hD : va_D (va_A [] s.heap.size) w) (hS : va_S (va_A [] s.heap.size) s.heap H locs) (hc : cells + 5 ≤ 601024) (hs : slots + 30 ≤ 7292999) (hl : lv_has ls 8 [(4, .int (nI i)), (3, .ref o), (2, .ref (A2 0)), (1, .ref (A 0)), (0, .ref b)]) (kk : ∀ (w : va_W) (H : Heap) (locs : List Loc) (ls : Array Slot), LI cJ cI cZ cS A A2 o N sf w → va_P D classes w H → va_D (va_A [] s.heap.size) w → va_S (va_A [] s.heap.size) s.heap H locs → lv_has ls 8 [(4, .int (nI i)), (3, .ref o), (2, .ref (A2 0)), (1, .ref (A 0)), (0, .ref b)] → W p l e room_1 s m #[Value.ref b] below meth c H locs (cells + 5) (slots + 30) Q (F0 m 1727 ls [])) : W p l e room_1 s m #[Value.ref b] below meth c H locs cells slots Q (F0 m 1200 ls []) := by
  have hx := hF.1
  have hb := hF.2.1
  have hown := hF.2.2.2.1
  have hts := hF.2.2.2.2
  have hT : ∀ w ∈ wG, w ∈ lw_tbl := fun w h => (List.mem_filter.mp h).1
  have hA : ∀ q, s.heap.size ≤ q → va_A [] s.heap.size q := fun q h => Or.inr h
  have hB : ∀ q, va_A [] s.heap.size q → s.heap.size ≤ q := fun q h => by
    rcases h with ⟨k, e, h⟩ | h
    · exact absurd h (by simp)
    · exact h
  have hbA : ¬ va_A [] s.heap.size b := fun h => Nat.not_le.mpr hbl (hB b h)
  obtain ⟨K, B, E, Km, Bm, Em, Lf, Tr, nu, ne, m1, th, R, EM, Pt, nA, nB, nC, hX0⟩ := hI
  have hx0 := hX0.1
  obtain ⟨f, ho⟩ := hX0.2.2.1
  have hA0 := hX0.2.2.2.1
  have hEm := hX0.2.2.2.2.2.2.1
  have hm1 := hX0.2.2.2.2.2.2.2
  refine lv_aload_n hx hb d_L_law_1200 rfl (lv_at hl 3 rfl) ?_
  refine lv_aload_n hx hb d_L_law_1201 rfl (lv_at hl 4 rfl) ?_
  refine lv_iload hx hb d_L_law_1202 (lv_at hl 0 rfl) ?_
  refine lv_iconst (v := nI 1) hx hb d_L_law_1204 (by decide) ?_
  refine lv_iadd hx hb d_L_law_1205 ?_
  refine gx_i (y := nI (i + 1)) (nI_add _ _) ?_
  refine gl_ld (j := i + 1) hx hb hX hbl hbA hS (by omega) hL d_L_law_1206 ?_
  refine lv_aload_n hx hb d_L_law_1207 rfl (lv_at hl 1 rfl) ?_
  refine gw_ci (gh_rS (n := 3) (As := [.ref (A 0), .int (xs (i + 1)), .ref o]) (rest := []) hF hT (hc_point (q0 := 0) (bo := 64) (o := o) (f := f) hx0.1 ho (fun r w h => by rw [h.2]) (fun Z w h => h.1) (c_X_point hlt hx0 hN1 hN5)) wm_3_4 wm_3_5 wm_1_0 wm_3_6 (by decide +kernel) ⟨(Nat.le_of_ble_eq_true rfl), (Nat.le_of_ble_eq_true rfl)⟩ rfl rfl (gh_pre hK hN hP hD hS hB hA hE hC) rfl hl.1 rfl (Nat.le_of_ble_eq_true rfl) d_L_law_1208 ⟨(by show _ ≤ 601024; omega), (by show _ ≤ 7292999; omega)⟩) hD hS hA (fun r w1 H locs hw hP hD hS => ?_)
  obtain ⟨hM1, hQ⟩ := lo_point hN1 hN5 hX0 hw
  have hF1 : lm_F N R EM (fun k => iv_mat N (B k)) := iv_F hN5 hA0
  refine lv_istore (lv' := [(5, .int r), (4, .int (nI i)), (3, .ref o), (2, .ref (A2 0)), (1, .ref (A 0)), (0, .ref b)]) hx hb d_L_law_1211 hl (by decide) rfl (fun ls hl => ?_)
  refine lv_aload_n hx hb d_L_law_1213 rfl (lv_at hl 3 rfl) ?_
  refine lv_aload_n hx hb d_L_law_1214 rfl (lv_at hl 5 rfl) ?_
  refine lv_iload hx hb d_L_law_1215 (lv_at hl 1 rfl) ?_
  refine lv_iconst (v := nI 1) hx hb d_L_law_1217 (by decide) ?_
  refine lv_iadd hx hb d_L_law_1218 ?_
  refine gx_i (y := nI (i + 1)) (nI_add _ _) ?_
  refine gl_ld (j := i + 1) hx hb hX hbl hbA hS (by omega) hL d_L_law_1219 ?_
  refine gw_cl (gc_L_156 (As := [.int (xs (i + 1))]) (rest := []) hF hT (c_M_point hM1 hN1 hN5) ⟨(Nat.le_of_ble_eq_true rfl), (Nat.le_of_ble_eq_true rfl)⟩ rfl rfl hK hN hP hD hM1.obj rfl hl.1 rfl (Nat.le_of_ble_eq_true rfl) d_L_law_1220 ⟨(by show _ ≤ 601024; omega), (by show _ ≤ 7292999; omega)⟩) hD hS hA (fun r' w2 H locs hw2 hP hD hS => ?_)
  obtain ⟨⟨⟨nm, hobj⟩, hLI⟩, f2, ho2, hv⟩ := hQ r' w2 hw2
  refine lv_lstore (lv' := [(6, .long r'), (5, .int r), (4, .int (nI i)), (3, .ref o), (2, .ref (A2 0)), (1, .ref (A 0)), (0, .ref b)]) hx hb d_L_law_1223 hl (by decide) rfl (fun ls hl => ?_)
  refine lv_aload_n hx hb d_L_law_1225 rfl (lv_at hl 4 rfl) ?_
  refine gw_ci0 (gc_L_106 (As := []) (rest := []) hF hT (c_M_thrown hobj hN1 hN5) ⟨(Nat.le_of_ble_eq_true rfl), (Nat.le_of_ble_eq_true rfl)⟩ rfl rfl hK hN hP hD hobj rfl hl.1 rfl (Nat.le_of_ble_eq_true rfl) d_L_law_1226 ⟨(by show _ ≤ 601024; omega), (by show _ ≤ 7292999; omega)⟩) hD hS hA (fun r3 H locs e3 hP hD hS => ?_)
  subst e3
  refine lv_iload hx hb d_L_law_1229 (lv_at hl 1 rfl) ?_
  refine lv_icmp_eq (tgt := 1236) hx hb d_L_law_1231 (by decide) (fun c => ?_) (fun c => absurd rfl c)
  refine lv_iload hx hb d_L_law_1236 (lv_at hl 1 rfl) ?_
  refine lv_if_ne (tgt := 1252) hx hb d_L_law_1238 (by decide) (fun c => ?_) (fun c => ?_)
  · refine lv_goto (tgt := 1727) hx hb d_L_law_1252 (by decide) ?_
    refine W.widen (k := cells + 5) (n := slots + 30) (by omega) (by omega) ?_
    exact kk _ _ _ _ hLI hP hD hS (lv_sub hl [2, 3, 4, 5, 6] rfl)
  · refine lv_aload_n hx hb d_L_law_1241 rfl (lv_at hl 3 rfl) ?_
    refine lv_iconst (v := nI 0) hx hb d_L_law_1242 (by decide) ?_
    refine g_lald (t0 := 0) (k := 0) hx hb hK hP ho2 rfl (by omega) (by omega) d_L_law_1243 ?_
    refine lv_lload hx hb d_L_law_1244 (lv_at hl 0 rfl) ?_
    refine gx_leq (tgt := 1252) hx hb d_L_law_1246 d_L_law_1247 (by decide) (fun c8 => ?_) (fun c8 => absurd (hv (c.trans nI_0.symm)) c8)
    refine lv_goto (tgt := 1727) hx hb d_L_law_1252 (by decide) ?_
    refine W.widen (k := cells + 5) (n := slots + 30) (by omega) (by omega) ?_
    exact kk _ _ _ _ hLI hP hD hS (lv_sub hl [2, 3, 4, 5, 6] rfl)
