set_option maxHeartbeats 4000000 in
set_option maxRecDepth 100000 in
theorem c_S_becomeMeeting {l : Launch} {D : va_G} {cJ cI cZ cS : ClassId} {ws : va_W} {sz : Nat} {j n : Nat} {a : Nat → Nat} {K B : Nat → Int64} {E : Int32} (hs : shAt cJ ws j a n K B E) (hn : n ≤ 10) (he : n % 2 = 0) {j2 : Nat} {b : Nat → Nat} {K2 B2 : Nat → Int64} {E2 : Int32} (hs2 : shAt cJ ws j2 b n K2 B2 E2) (hE2 : E2 = 0 ∨ E2 = 1) (hj2 : j2 + 5 ≤ j ∨ j + 5 ≤ j2) {j3 : Nat} {d : Nat → Nat} {K3 B3 : Nat → Int64} {E3 : Int32} (hs3 : shAt cJ ws j3 d n K3 B3 E3) (hE3 : E3 = 0 ∨ E3 = 1) (hj3 : j3 + 5 ≤ j ∨ j + 5 ≤ j3) : Met l y_S_becomeMeeting w_S_becomeMeeting ({ frames := 6, cells := 0, slots := 0, locals := 111 } : Room) (gw_Pc D classes (gT cJ cI cZ cS) [.ref (a 0), .ref (b 0), .ref (d 0)] ws sz) (va_Qv (fun w => (∃ K1 B1 E1, lr_meetO K B n B2 E2 B3 E3 K1 B1 E1 ∧ shAt cJ w j a n K1 B1 E1) ∧ gF j (j + 5) ws w) (gw_B D classes (gT cJ cI cZ cS) ws sz) (va_A ws sz)) 0 0 (va_A ws sz) := by
  refine gw_head (by decide) (Nat.le_of_ble_eq_true rfl) (fun p e s m below meth c hsz hx hb hr hlocks hml hown hnm hts hK hN hP hD hS hA ls hl => ?_)
  have hown : s.vm.findClass R_S = some m.cls := hown
  have hT : ∀ w ∈ wG, w ∈ Cond.code y_S_becomeMeeting b_S_becomeMeeting 5 none :: wG := gd_t _
  have hF : CallFix p m c b_S_becomeMeeting 5 s ([.ref (a 0), .ref (b 0), .ref (d 0)] : List Value).toArray (Cond.code y_S_becomeMeeting b_S_becomeMeeting 5 none :: wG) R_S := ⟨hx, hb, hml, hown, hts⟩
  have hl : lv_has ls 5 [(0, .ref (a 0)), (1, .ref (b 0)), (2, .ref (d 0))] := hl
  obtain ⟨s0, ⟨sko, skc⟩, ⟨sbo, sbc⟩⟩ := hs
  obtain ⟨u0, ⟨uko, ukc⟩, ⟨ubo, ubc⟩⟩ := hs2
  obtain ⟨v0, ⟨vko, vkc⟩, ⟨vbo, vbc⟩⟩ := hs3
  have hfr : gF j (j + 5) ws ws := gF.rf
  refine lv_aload_n hx hb d_S_becomeMeeting_0 rfl (lv_at hl 1 rfl) ?_
  refine gf_S_31 hF hT hK hP u0 rfl d_S_becomeMeeting_1 ?_
  refine lv_if_ne (tgt := 14) hx hb d_S_becomeMeeting_4 (by decide) (fun c1 => ?_) (fun c1 => ?_)
  · refine lv_aload_n hx hb d_S_becomeMeeting_14 rfl (lv_at hl 0 rfl) ?_
    refine gw_cv (gc_S_51 (As := []) (rest := []) hF hT (c_S_becomeEmpty ⟨s0, ⟨sko, skc⟩, ⟨sbo, sbc⟩⟩ hn he) ⟨(Nat.le_of_ble_eq_true rfl), (Nat.le_of_ble_eq_true rfl)⟩ rfl rfl hK hN hP hD s0 rfl hl.1 rfl (Nat.le_of_ble_eq_true rfl) d_S_becomeMeeting_15 ⟨(Nat.le_of_ble_eq_true rfl), (Nat.le_of_ble_eq_true rfl)⟩) hD hS hA (fun w H locs hw hP hD hS => ?_)
    obtain ⟨⟨s0, ⟨sko, skc⟩, ⟨sbo, sbc⟩⟩, hf⟩ := hw
    have u0 := hf.at u0 (by omega)
    have uko := hf.at uko (by omega)
    have ukc := hf.at ukc (by omega)
    have ubo := hf.at ubo (by omega)
    have ubc := hf.at ubc (by omega)
    have v0 := hf.at v0 (by omega)
    have vko := hf.at vko (by omega)
    have vkc := hf.at vkc (by omega)
    have vbo := hf.at vbo (by omega)
    have vbc := hf.at vbc (by omega)
    have hfr := hfr.in hf (by omega) (by omega)
    exact gw_vret hx hb hr hlocks hK hP hD hS (Nat.le_of_ble_eq_true rfl) (Nat.le_of_ble_eq_true rfl) d_S_becomeMeeting_18 ⟨⟨_, _, _, Or.inl ⟨Or.inl c1, rfl, rfl, rfl⟩, ⟨s0, ⟨sko, skc⟩, ⟨sbo, sbc⟩⟩⟩, hfr⟩
  · refine lv_aload_n hx hb d_S_becomeMeeting_7 rfl (lv_at hl 2 rfl) ?_
    refine gf_S_31 hF hT hK hP v0 rfl d_S_becomeMeeting_8 ?_
    refine lv_if_eq (tgt := 19) hx hb d_S_becomeMeeting_11 (by decide) (fun c2 => ?_) (fun c2 => ?_)
    · refine lv_aload_n hx hb d_S_becomeMeeting_19 rfl (lv_at hl 0 rfl) ?_
      refine gw_cv (gc_S_38 (As := []) (rest := []) hF hT (c_S_becomeAll ⟨s0, ⟨sko, skc⟩, ⟨sbo, sbc⟩⟩ hn he) ⟨(Nat.le_of_ble_eq_true rfl), (Nat.le_of_ble_eq_true rfl)⟩ rfl rfl hK hN hP hD s0 rfl hl.1 rfl (Nat.le_of_ble_eq_true rfl) d_S_becomeMeeting_20 ⟨(Nat.le_of_ble_eq_true rfl), (Nat.le_of_ble_eq_true rfl)⟩) hD hS hA (fun w H locs hw hP hD hS => ?_)
      obtain ⟨⟨s0, ⟨sko, skc⟩, ⟨sbo, sbc⟩⟩, hf⟩ := hw
      have u0 := hf.at u0 (by omega)
      have uko := hf.at uko (by omega)
      have ukc := hf.at ukc (by omega)
      have ubo := hf.at ubo (by omega)
      have ubc := hf.at ubc (by omega)
      have v0 := hf.at v0 (by omega)
      have vko := hf.at vko (by omega)
      have vkc := hf.at vkc (by omega)
      have vbo := hf.at vbo (by omega)
      have vbc := hf.at vbc (by omega)
      have hfr := hfr.in hf (by omega) (by omega)
      refine lv_iconst (v := nI 0) hx hb d_S_becomeMeeting_23 (by decide) ?_
      refine lv_istore_n (lv' := [(3, .int (nI 0)), (0, .ref (a 0)), (1, .ref (b 0)), (2, .ref (d 0))]) hx hb d_S_becomeMeeting_24 rfl hl (by decide) rfl (fun ls hl => ?_)
      have lp_25 : ∀ (dd i : Nat), i + dd = n → ∀ (w : va_W) (H : Heap) (locs : List Loc) (ls : Array Slot), w[j]? = some (a 0, .inr (1, [.int (nI n), .ref (a 1), .ref (a 3), .int (nI 0)])) → w[j + 1]? = some (a 1, .inr (0, [.int (nI n), .ref (a 2)])) → w[j + 1 + 1]? = some (a 2, .inl (cJ, n * n, .inr (.inl (lr_symO (lr_gM B2 B3 n) n i (lr_all K n))))) → w[j + 3]? = some (a 3, .inr (0, [.int (nI n), .ref (a 4)])) → w[j + 3 + 1]? = some (a 4, .inl (cJ, n * n, .inr (.inl (lr_allB B n)))) → w[j2]? = some (b 0, .inr (1, [.int (nI n), .ref (b 1), .ref (b 3), .int E2])) → w[j2 + 1]? = some (b 1, .inr (0, [.int (nI n), .ref (b 2)])) → w[j2 + 1 + 1]? = some (b 2, .inl (cJ, n * n, .inr (.inl K2))) → w[j2 + 3]? = some (b 3, .inr (0, [.int (nI n), .ref (b 4)])) → w[j2 + 3 + 1]? = some (b 4, .inl (cJ, n * n, .inr (.inl B2))) → w[j3]? = some (d 0, .inr (1, [.int (nI n), .ref (d 1), .ref (d 3), .int E3])) → w[j3 + 1]? = some (d 1, .inr (0, [.int (nI n), .ref (d 2)])) → w[j3 + 1 + 1]? = some (d 2, .inl (cJ, n * n, .inr (.inl K3))) → w[j3 + 3]? = some (d 3, .inr (0, [.int (nI n), .ref (d 4)])) → w[j3 + 3 + 1]? = some (d 4, .inl (cJ, n * n, .inr (.inl B3))) → gF j (j + 5) ws w → va_P D classes w H → va_D (va_A ws sz) w → va_S (va_A ws sz) s.heap H locs → lv_has ls 5 [(3, .int (nI i)), (0, .ref (a 0)), (1, .ref (b 0)), (2, .ref (d 0))] → W p l e ({ frames := 6, cells := 0, slots := 0, locals := 111 } : Room) s m ([.ref (a 0), .ref (b 0), .ref (d 0)] : List Value).toArray below meth c H locs 0 0 (MQ below (va_Qv (fun w => (∃ K1 B1 E1, lr_meetO K B n B2 E2 B3 E3 K1 B1 E1 ∧ shAt cJ w j a n K1 B1 E1) ∧ gF j (j + 5) ws w) (gw_B D classes (gT cJ cI cZ cS) ws sz) (va_A ws sz)) ([.ref (a 0), .ref (b 0), .ref (d 0)] : List Value).toArray s 0 0 (va_A ws sz)) (F0 m 25 ls []) := by
        intro dd
        induction dd with
        | zero =>
          intro i e_i w H locs ls s0 sko skc sbo sbc u0 uko ukc ubo ubc v0 vko vkc vbo vbc hfr hP hD hS hl
          have e0_i : n = i := by omega
          subst e0_i
          refine lv_iload_n hx hb d_S_becomeMeeting_25 rfl (lv_at hl 0 rfl) ?_
          refine lv_aload_n hx hb d_S_becomeMeeting_26 rfl (lv_at hl 1 rfl) ?_
          refine gf_S_9 hF hT hK hP s0 rfl d_S_becomeMeeting_27 ?_
          refine lv_icmp_ge (tgt := 90) hx hb d_S_becomeMeeting_30 (by decide) (fun c3 => ?_) (fun c3 => ?_)
          · have c3 := (nI_leI (a := n) (b := n) (by omega) (by omega)).mp c3
            refine lv_aload_n hx hb d_S_becomeMeeting_90 rfl (lv_at hl 1 rfl) ?_
            refine gw_cv (gc_S_70 (As := []) (rest := []) hF hT (c_S_closeKeptRows ⟨s0, ⟨sko, skc⟩, ⟨sbo, sbc⟩⟩ hn he) ⟨(Nat.le_of_ble_eq_true rfl), (Nat.le_of_ble_eq_true rfl)⟩ rfl rfl hK hN hP hD s0 rfl hl.1 rfl (Nat.le_of_ble_eq_true rfl) d_S_becomeMeeting_91 ⟨(Nat.le_of_ble_eq_true rfl), (Nat.le_of_ble_eq_true rfl)⟩) hD hS hA (fun w H locs hw hP hD hS => ?_)
            obtain ⟨⟨K4, B4, E4, o4, ⟨s0, ⟨sko, skc⟩, ⟨sbo, sbc⟩⟩⟩, hf⟩ := hw
            have u0 := hf.at u0 (by omega)
            have uko := hf.at uko (by omega)
            have ukc := hf.at ukc (by omega)
            have ubo := hf.at ubo (by omega)
            have ubc := hf.at ubc (by omega)
            have v0 := hf.at v0 (by omega)
            have vko := hf.at vko (by omega)
            have vkc := hf.at vkc (by omega)
            have vbo := hf.at vbo (by omega)
            have vbc := hf.at vbc (by omega)
            have hfr := hfr.in hf (by omega) (by omega)
            refine lv_aload_n hx hb d_S_becomeMeeting_94 rfl (lv_at hl 1 rfl) ?_
            refine gw_cv (gc_S_82 (As := []) (rest := []) hF hT (c_S_keepBounds ⟨s0, ⟨sko, skc⟩, ⟨sbo, sbc⟩⟩ hn he) ⟨(Nat.le_of_ble_eq_true rfl), (Nat.le_of_ble_eq_true rfl)⟩ rfl rfl hK hN hP hD s0 rfl hl.1 rfl (Nat.le_of_ble_eq_true rfl) d_S_becomeMeeting_95 ⟨(Nat.le_of_ble_eq_true rfl), (Nat.le_of_ble_eq_true rfl)⟩) hD hS hA (fun w H locs hw hP hD hS => ?_)
            obtain ⟨⟨K5, o5, ⟨s0, ⟨sko, skc⟩, ⟨sbo, sbc⟩⟩⟩, hf⟩ := hw
            have u0 := hf.at u0 (by omega)
            have uko := hf.at uko (by omega)
            have ukc := hf.at ukc (by omega)
            have ubo := hf.at ubo (by omega)
            have ubc := hf.at ubc (by omega)
            have v0 := hf.at v0 (by omega)
            have vko := hf.at vko (by omega)
            have vkc := hf.at vkc (by omega)
            have vbo := hf.at vbo (by omega)
            have vbc := hf.at vbc (by omega)
            have hfr := hfr.in hf (by omega) (by omega)
            exact gw_vret hx hb hr hlocks hK hP hD hS (Nat.le_of_ble_eq_true rfl) (Nat.le_of_ble_eq_true rfl) d_S_becomeMeeting_98 ⟨⟨_, _, _, Or.inr ⟨c1, c2, _, o4, o5⟩, ⟨s0, ⟨sko, skc⟩, ⟨sbo, sbc⟩⟩⟩, hfr⟩
          · have c3 : ¬ (n ≤ n) := fun z => c3 ((nI_leI (a := n) (b := n) (by omega) (by omega)).mpr z)
            exfalso; omega
        | succ dd ih_25 =>
          intro i e_i w H locs ls s0 sko skc sbo sbc u0 uko ukc ubo ubc v0 vko vkc vbo vbc hfr hP hD hS hl
          refine lv_iload_n hx hb d_S_becomeMeeting_25 rfl (lv_at hl 0 rfl) ?_
          refine lv_aload_n hx hb d_S_becomeMeeting_26 rfl (lv_at hl 1 rfl) ?_
          refine gf_S_9 hF hT hK hP s0 rfl d_S_becomeMeeting_27 ?_
          refine lv_icmp_ge (tgt := 90) hx hb d_S_becomeMeeting_30 (by decide) (fun c6 => ?_) (fun c6 => ?_)
          · have c6 := (nI_leI (a := n) (b := i) (by omega) (by omega)).mp c6
            exfalso; omega
          · have c6 : ¬ (n ≤ i) := fun z => c6 ((nI_leI (a := n) (b := i) (by omega) (by omega)).mpr z)
            refine lv_iload_n hx hb d_S_becomeMeeting_33 rfl (lv_at hl 0 rfl) ?_
            refine lv_istore (lv' := [(4, .int (nI i)), (3, .int (nI i)), (0, .ref (a 0)), (1, .ref (b 0)), (2, .ref (d 0))]) hx hb d_S_becomeMeeting_34 hl (by decide) rfl (fun ls hl => ?_)
            have lp_36 : ∀ (dd t : Nat), t + dd = (n - i) → ∀ (w : va_W) (H : Heap) (locs : List Loc) (ls : Array Slot), w[j]? = some (a 0, .inr (1, [.int (nI n), .ref (a 1), .ref (a 3), .int (nI 0)])) → w[j + 1]? = some (a 1, .inr (0, [.int (nI n), .ref (a 2)])) → w[j + 1 + 1]? = some (a 2, .inl (cJ, n * n, .inr (.inl (lr_symI (lr_gM B2 B3 n) n i t (lr_symO (lr_gM B2 B3 n) n i (lr_all K n)))))) → w[j + 3]? = some (a 3, .inr (0, [.int (nI n), .ref (a 4)])) → w[j + 3 + 1]? = some (a 4, .inl (cJ, n * n, .inr (.inl (lr_allB B n)))) → w[j2]? = some (b 0, .inr (1, [.int (nI n), .ref (b 1), .ref (b 3), .int E2])) → w[j2 + 1]? = some (b 1, .inr (0, [.int (nI n), .ref (b 2)])) → w[j2 + 1 + 1]? = some (b 2, .inl (cJ, n * n, .inr (.inl K2))) → w[j2 + 3]? = some (b 3, .inr (0, [.int (nI n), .ref (b 4)])) → w[j2 + 3 + 1]? = some (b 4, .inl (cJ, n * n, .inr (.inl B2))) → w[j3]? = some (d 0, .inr (1, [.int (nI n), .ref (d 1), .ref (d 3), .int E3])) → w[j3 + 1]? = some (d 1, .inr (0, [.int (nI n), .ref (d 2)])) → w[j3 + 1 + 1]? = some (d 2, .inl (cJ, n * n, .inr (.inl K3))) → w[j3 + 3]? = some (d 3, .inr (0, [.int (nI n), .ref (d 4)])) → w[j3 + 3 + 1]? = some (d 4, .inl (cJ, n * n, .inr (.inl B3))) → gF j (j + 5) ws w → va_P D classes w H → va_D (va_A ws sz) w → va_S (va_A ws sz) s.heap H locs → lv_has ls 5 [(4, .int (nI (i + t))), (3, .int (nI i)), (0, .ref (a 0)), (1, .ref (b 0)), (2, .ref (d 0))] → W p l e ({ frames := 6, cells := 0, slots := 0, locals := 111 } : Room) s m ([.ref (a 0), .ref (b 0), .ref (d 0)] : List Value).toArray below meth c H locs 0 0 (MQ below (va_Qv (fun w => (∃ K1 B1 E1, lr_meetO K B n B2 E2 B3 E3 K1 B1 E1 ∧ shAt cJ w j a n K1 B1 E1) ∧ gF j (j + 5) ws w) (gw_B D classes (gT cJ cI cZ cS) ws sz) (va_A ws sz)) ([.ref (a 0), .ref (b 0), .ref (d 0)] : List Value).toArray s 0 0 (va_A ws sz)) (F0 m 36 ls []) := by
              intro dd
              induction dd with
              | zero =>
                intro t e_t w H locs ls s0 sko skc sbo sbc u0 uko ukc ubo ubc v0 vko vkc vbo vbc hfr hP hD hS hl
                have e0_t : (n - i) = t := by omega
                subst e0_t
                refine lv_iload hx hb d_S_becomeMeeting_36 (lv_at hl 0 rfl) ?_
                refine lv_aload_n hx hb d_S_becomeMeeting_38 rfl (lv_at hl 2 rfl) ?_
                refine gf_S_9 hF hT hK hP s0 rfl d_S_becomeMeeting_39 ?_
                refine lv_icmp_ge (tgt := 84) hx hb d_S_becomeMeeting_42 (by decide) (fun c7 => ?_) (fun c7 => ?_)
                · have c7 := (nI_leI (a := n) (b := (i + (n - i))) (by omega) (by omega)).mp c7
                  refine lv_iinc (v := nI (i + 1)) (lv' := [(3, .int (nI (i + 1))), (4, .int (nI (i + (n - i)))), (0, .ref (a 0)), (1, .ref (b 0)), (2, .ref (d 0))]) hx hb d_S_becomeMeeting_84 hl (k := 1) rfl (gx_inc _) (by decide) rfl (fun ls hl => ?_)
                  refine lv_goto (tgt := 25) hx hb d_S_becomeMeeting_87 (by decide) ?_
                  exact ih_25 (i + 1) (by omega) _ _ _ _ s0 sko skc sbo sbc u0 uko ukc ubo ubc v0 vko vkc vbo vbc hfr hP hD hS (lv_sub hl [0, 2, 3, 4] rfl)
                · have c7 : ¬ (n ≤ i + (n - i)) := fun z => c7 ((nI_leI (a := n) (b := (i + (n - i))) (by omega) (by omega)).mpr z)
                  exfalso; omega
              | succ dd ih_36 =>
                intro t e_t w H locs ls s0 sko skc sbo sbc u0 uko ukc ubo ubc v0 vko vkc vbo vbc hfr hP hD hS hl
                refine lv_iload hx hb d_S_becomeMeeting_36 (lv_at hl 0 rfl) ?_
                refine lv_aload_n hx hb d_S_becomeMeeting_38 rfl (lv_at hl 2 rfl) ?_
                refine gf_S_9 hF hT hK hP s0 rfl d_S_becomeMeeting_39 ?_
                refine lv_icmp_ge (tgt := 84) hx hb d_S_becomeMeeting_42 (by decide) (fun c8 => ?_) (fun c8 => ?_)
                · have c8 := (nI_leI (a := n) (b := (i + t)) (by omega) (by omega)).mp c8
                  exfalso; omega
                · have c8 : ¬ (n ≤ i + t) := fun z => c8 ((nI_leI (a := n) (b := (i + t)) (by omega) (by omega)).mpr z)
                  refine lv_aload_n hx hb d_S_becomeMeeting_45 rfl (lv_at hl 2 rfl) ?_
                  refine gf_S_20 hF hT hK hP s0 rfl d_S_becomeMeeting_46 ?_
                  refine lv_iload_n hx hb d_S_becomeMeeting_49 rfl (lv_at hl 1 rfl) ?_
                  refine lv_iload hx hb d_S_becomeMeeting_50 (lv_at hl 0 rfl) ?_
                  refine lv_aload_n hx hb d_S_becomeMeeting_52 rfl (lv_at hl 3 rfl) ?_
                  refine gf_S_24 hF hT hK hP u0 rfl d_S_becomeMeeting_53 ?_
                  refine lv_iload_n hx hb d_S_becomeMeeting_56 rfl (lv_at hl 1 rfl) ?_
                  refine lv_iload hx hb d_S_becomeMeeting_57 (lv_at hl 0 rfl) ?_
                  refine gw_cl0 (gc_S_73 (As := [.int (nI i), .int (nI (i + t))]) (rest := [.int (nI (i + t)), .int (nI i), .ref (a 1)]) hF hT (c_T_at ⟨ubo, ubc⟩ hn (by omega) (by omega)) ⟨(Nat.le_of_ble_eq_true rfl), (Nat.le_of_ble_eq_true rfl)⟩ rfl rfl hK hN hP hD ubo rfl hl.1 rfl (Nat.le_of_ble_eq_true rfl) d_S_becomeMeeting_59 ⟨(Nat.le_of_ble_eq_true rfl), (Nat.le_of_ble_eq_true rfl)⟩) hD hS hA (fun r9 H locs e_r9 hP hD hS => ?_)
                  subst e_r9
                  refine lv_aload_n hx hb d_S_becomeMeeting_62 rfl (lv_at hl 4 rfl) ?_
                  refine gf_S_24 hF hT hK hP v0 rfl d_S_becomeMeeting_63 ?_
                  refine lv_iload_n hx hb d_S_becomeMeeting_66 rfl (lv_at hl 1 rfl) ?_
                  refine lv_iload hx hb d_S_becomeMeeting_67 (lv_at hl 0 rfl) ?_
                  refine gw_cl0 (gc_S_73 (As := [.int (nI i), .int (nI (i + t))]) (rest := [.long (B2 (i * n + (i + t))), .int (nI (i + t)), .int (nI i), .ref (a 1)]) hF hT (c_T_at ⟨vbo, vbc⟩ hn (by omega) (by omega)) ⟨(Nat.le_of_ble_eq_true rfl), (Nat.le_of_ble_eq_true rfl)⟩ rfl rfl hK hN hP hD vbo rfl hl.1 rfl (Nat.le_of_ble_eq_true rfl) d_S_becomeMeeting_69 ⟨(Nat.le_of_ble_eq_true rfl), (Nat.le_of_ble_eq_true rfl)⟩) hD hS hA (fun r10 H locs e_r10 hP hD hS => ?_)
                  subst e_r10
                  refine va_mmin_long hx hb (by rw [hml]; exact hl.1.symm) hown (hts _ (hT _ wm_2_137)) (hts _ (hT _ wm_2_22)) (hts _ (hT _ wm_1_2)) (hts _ (hT _ wm_2_23)) (Nat.le_of_ble_eq_true rfl) (Nat.le_of_ble_eq_true rfl) (Nat.le_of_ble_eq_true rfl) (Nat.le_of_ble_eq_true rfl) d_S_becomeMeeting_72 ?_
                  refine gx_l (y := lr_gM B2 B3 n i (i + t)) rfl ?_
                  refine gw_cv (gc_S_79 (As := [.int (nI i), .int (nI (i + t)), .long (lr_gM B2 B3 n i (i + t))]) (rest := []) hF hT (c_T_store ⟨sko, skc⟩ hn (by omega) (by omega)) ⟨(Nat.le_of_ble_eq_true rfl), (Nat.le_of_ble_eq_true rfl)⟩ rfl rfl hK hN hP hD sko rfl hl.1 rfl (Nat.le_of_ble_eq_true rfl) d_S_becomeMeeting_75 ⟨(Nat.le_of_ble_eq_true rfl), (Nat.le_of_ble_eq_true rfl)⟩) hD hS hA (fun w H locs hw hP hD hS => ?_)
                  obtain ⟨⟨sko, skc⟩, hf⟩ := hw
                  have s0 := hf.at s0 (by omega)
                  have sbo := hf.at sbo (by omega)
                  have sbc := hf.at sbc (by omega)
                  have u0 := hf.at u0 (by omega)
                  have uko := hf.at uko (by omega)
                  have ukc := hf.at ukc (by omega)
                  have ubo := hf.at ubo (by omega)
                  have ubc := hf.at ubc (by omega)
                  have v0 := hf.at v0 (by omega)
                  have vko := hf.at vko (by omega)
                  have vkc := hf.at vkc (by omega)
                  have vbo := hf.at vbo (by omega)
                  have vbc := hf.at vbc (by omega)
                  have hfr := hfr.in hf (by omega) (by omega)
                  refine lv_iinc (v := nI (i + t + 1)) (lv' := [(4, .int (nI (i + t + 1))), (3, .int (nI i)), (0, .ref (a 0)), (1, .ref (b 0)), (2, .ref (d 0))]) hx hb d_S_becomeMeeting_78 hl (k := 0) rfl (gx_inc _) (by decide) rfl (fun ls hl => ?_)
                  refine lv_goto (tgt := 36) hx hb d_S_becomeMeeting_81 (by decide) ?_
                  exact ih_36 (t + 1) (by omega) _ _ _ _ s0 sko skc sbo sbc u0 uko ukc ubo ubc v0 vko vkc vbo vbc hfr hP hD hS (lv_sub hl [0, 1, 2, 3, 4] rfl)
            exact lp_36 (n - i) 0 (by omega) _ _ _ _ s0 sko skc sbo sbc u0 uko ukc ubo ubc v0 vko vkc vbo vbc hfr hP hD hS (lv_sub hl [0, 1, 2, 3, 4] rfl)
      exact lp_25 n 0 (by omega) _ _ _ _ s0 sko skc sbo sbc u0 uko ukc ubo ubc v0 vko vkc vbo vbc hfr hP hD hS (lv_sub hl [0, 1, 2, 3] rfl)
    · refine lv_aload_n hx hb d_S_becomeMeeting_14 rfl (lv_at hl 0 rfl) ?_
      refine gw_cv (gc_S_51 (As := []) (rest := []) hF hT (c_S_becomeEmpty ⟨s0, ⟨sko, skc⟩, ⟨sbo, sbc⟩⟩ hn he) ⟨(Nat.le_of_ble_eq_true rfl), (Nat.le_of_ble_eq_true rfl)⟩ rfl rfl hK hN hP hD s0 rfl hl.1 rfl (Nat.le_of_ble_eq_true rfl) d_S_becomeMeeting_15 ⟨(Nat.le_of_ble_eq_true rfl), (Nat.le_of_ble_eq_true rfl)⟩) hD hS hA (fun w H locs hw hP hD hS => ?_)
      obtain ⟨⟨s0, ⟨sko, skc⟩, ⟨sbo, sbc⟩⟩, hf⟩ := hw
      have u0 := hf.at u0 (by omega)
      have uko := hf.at uko (by omega)
      have ukc := hf.at ukc (by omega)
      have ubo := hf.at ubo (by omega)
      have ubc := hf.at ubc (by omega)
      have v0 := hf.at v0 (by omega)
      have vko := hf.at vko (by omega)
      have vkc := hf.at vkc (by omega)
      have vbo := hf.at vbo (by omega)
      have vbc := hf.at vbc (by omega)
      have hfr := hfr.in hf (by omega) (by omega)
      exact gw_vret hx hb hr hlocks hK hP hD hS (Nat.le_of_ble_eq_true rfl) (Nat.le_of_ble_eq_true rfl) d_S_becomeMeeting_18 ⟨⟨_, _, _, Or.inl ⟨Or.inr c2, rfl, rfl, rfl⟩, ⟨s0, ⟨sko, skc⟩, ⟨sbo, sbc⟩⟩⟩, hfr⟩

set_option maxHeartbeats 4000000 in
set_option maxRecDepth 100000 in
theorem c_S_becomeJoin {l : Launch} {D : va_G} {cJ cI cZ cS : ClassId} {ws : va_W} {sz : Nat} {j n : Nat} {a : Nat → Nat} {K B : Nat → Int64} {E : Int32} (hs : shAt cJ ws j a n K B E) (hn : n ≤ 10) (he : n % 2 = 0) {j2 : Nat} {b : Nat → Nat} {K2 B2 : Nat → Int64} {E2 : Int32} (hs2 : shAt cJ ws j2 b n K2 B2 E2) (hE2 : E2 = 0 ∨ E2 = 1) (hj2 : j2 + 5 ≤ j ∨ j + 5 ≤ j2) {j3 : Nat} {d : Nat → Nat} {K3 B3 : Nat → Int64} {E3 : Int32} (hs3 : shAt cJ ws j3 d n K3 B3 E3) (hE3 : E3 = 0 ∨ E3 = 1) (hj3 : j3 + 5 ≤ j ∨ j + 5 ≤ j3) : Met l y_S_becomeJoin w_S_becomeJoin ({ frames := 4, cells := 0, slots := 0, locals := 72 } : Room) (gw_Pc D classes (gT cJ cI cZ cS) [.ref (a 0), .ref (b 0), .ref (d 0)] ws sz) (va_Qv (fun w => (∃ K1 B1 E1, lr_joinO K B n K2 B2 E2 K3 B3 E3 K1 B1 E1 ∧ shAt cJ w j a n K1 B1 E1) ∧ gF j (j + 5) ws w) (gw_B D classes (gT cJ cI cZ cS) ws sz) (va_A ws sz)) 0 0 (va_A ws sz) := by
  refine gw_head (by decide) (Nat.le_of_ble_eq_true rfl) (fun p e s m below meth c hsz hx hb hr hlocks hml hown hnm hts hK hN hP hD hS hA ls hl => ?_)
  have hown : s.vm.findClass R_S = some m.cls := hown
  have hT : ∀ w ∈ wG, w ∈ Cond.code y_S_becomeJoin b_S_becomeJoin 5 none :: wG := gd_t _
  have hF : CallFix p m c b_S_becomeJoin 5 s ([.ref (a 0), .ref (b 0), .ref (d 0)] : List Value).toArray (Cond.code y_S_becomeJoin b_S_becomeJoin 5 none :: wG) R_S := ⟨hx, hb, hml, hown, hts⟩
  have hl : lv_has ls 5 [(0, .ref (a 0)), (1, .ref (b 0)), (2, .ref (d 0))] := hl
  obtain ⟨s0, ⟨sko, skc⟩, ⟨sbo, sbc⟩⟩ := hs
  obtain ⟨u0, ⟨uko, ukc⟩, ⟨ubo, ubc⟩⟩ := hs2
  obtain ⟨v0, ⟨vko, vkc⟩, ⟨vbo, vbc⟩⟩ := hs3
  have hfr : gF j (j + 5) ws ws := gF.rf
  refine lv_aload_n hx hb d_S_becomeJoin_0 rfl (lv_at hl 1 rfl) ?_
  refine gf_S_31 hF hT hK hP u0 rfl d_S_becomeJoin_1 ?_
  refine lv_if_ne (tgt := 14) hx hb d_S_becomeJoin_4 (by decide) (fun c1 => ?_) (fun c1 => ?_)
  · refine lv_aload_n hx hb d_S_becomeJoin_14 rfl (lv_at hl 0 rfl) ?_
    refine lv_aload_n hx hb d_S_becomeJoin_15 rfl (lv_at hl 1 rfl) ?_
    refine gf_S_31 hF hT hK hP u0 rfl d_S_becomeJoin_16 ?_
    refine lv_if_eq (tgt := 26) hx hb d_S_becomeJoin_19 (by decide) (fun c2 => ?_) (fun c2 => ?_)
    · exact absurd ‹E2 = 0› ‹¬ E2 = 0›
    · refine lv_aload_n hx hb d_S_becomeJoin_22 rfl (lv_at hl 2 rfl) ?_
      refine lv_goto (tgt := 27) hx hb d_S_becomeJoin_23 (by decide) ?_
      refine gw_cv (gc_S_85 (As := [.ref (d 0)]) (rest := []) hF hT (c_S_becomeLike ⟨s0, ⟨sko, skc⟩, ⟨sbo, sbc⟩⟩ hn he ⟨v0, ⟨vko, vkc⟩, ⟨vbo, vbc⟩⟩ hE3 hj3) ⟨(Nat.le_of_ble_eq_true rfl), (Nat.le_of_ble_eq_true rfl)⟩ rfl rfl hK hN hP hD s0 rfl hl.1 rfl (Nat.le_of_ble_eq_true rfl) d_S_becomeJoin_27 ⟨(Nat.le_of_ble_eq_true rfl), (Nat.le_of_ble_eq_true rfl)⟩) hD hS hA (fun w H locs hw hP hD hS => ?_)
      obtain ⟨⟨s0, ⟨sko, skc⟩, ⟨sbo, sbc⟩⟩, hf⟩ := hw
      have u0 := hf.at u0 (by omega)
      have uko := hf.at uko (by omega)
      have ukc := hf.at ukc (by omega)
      have ubo := hf.at ubo (by omega)
      have ubc := hf.at ubc (by omega)
      have v0 := hf.at v0 (by omega)
      have vko := hf.at vko (by omega)
      have vkc := hf.at vkc (by omega)
      have vbo := hf.at vbo (by omega)
      have vbc := hf.at vbc (by omega)
      have hfr := hfr.in hf (by omega) (by omega)
      refine lv_aload_n hx hb d_S_becomeJoin_30 rfl (lv_at hl 0 rfl) ?_
      refine gw_cv (gc_S_82 (As := []) (rest := []) hF hT (c_S_keepBounds ⟨s0, ⟨sko, skc⟩, ⟨sbo, sbc⟩⟩ hn he) ⟨(Nat.le_of_ble_eq_true rfl), (Nat.le_of_ble_eq_true rfl)⟩ rfl rfl hK hN hP hD s0 rfl hl.1 rfl (Nat.le_of_ble_eq_true rfl) d_S_becomeJoin_31 ⟨(Nat.le_of_ble_eq_true rfl), (Nat.le_of_ble_eq_true rfl)⟩) hD hS hA (fun w H locs hw hP hD hS => ?_)
      obtain ⟨⟨K3, o3, ⟨s0, ⟨sko, skc⟩, ⟨sbo, sbc⟩⟩⟩, hf⟩ := hw
      have u0 := hf.at u0 (by omega)
      have uko := hf.at uko (by omega)
      have ukc := hf.at ukc (by omega)
      have ubo := hf.at ubo (by omega)
      have ubc := hf.at ubc (by omega)
      have v0 := hf.at v0 (by omega)
      have vko := hf.at vko (by omega)
      have vkc := hf.at vkc (by omega)
      have vbo := hf.at vbo (by omega)
      have vbc := hf.at vbc (by omega)
      have hfr := hfr.in hf (by omega) (by omega)
      exact gw_vret hx hb hr hlocks hK hP hD hS (Nat.le_of_ble_eq_true rfl) (Nat.le_of_ble_eq_true rfl) d_S_becomeJoin_34 ⟨⟨_, _, _, Or.inl ⟨c1, _, ⟨rfl, rfl, rfl⟩, o3⟩, ⟨s0, ⟨sko, skc⟩, ⟨sbo, sbc⟩⟩⟩, hfr⟩
  · refine lv_aload_n hx hb d_S_becomeJoin_7 rfl (lv_at hl 2 rfl) ?_
    refine gf_S_31 hF hT hK hP v0 rfl d_S_becomeJoin_8 ?_
    refine lv_if_eq (tgt := 35) hx hb d_S_becomeJoin_11 (by decide) (fun c4 => ?_) (fun c4 => ?_)
    · refine lv_aload_n hx hb d_S_becomeJoin_35 rfl (lv_at hl 0 rfl) ?_
      refine gw_cv (gc_S_38 (As := []) (rest := []) hF hT (c_S_becomeAll ⟨s0, ⟨sko, skc⟩, ⟨sbo, sbc⟩⟩ hn he) ⟨(Nat.le_of_ble_eq_true rfl), (Nat.le_of_ble_eq_true rfl)⟩ rfl rfl hK hN hP hD s0 rfl hl.1 rfl (Nat.le_of_ble_eq_true rfl) d_S_becomeJoin_36 ⟨(Nat.le_of_ble_eq_true rfl), (Nat.le_of_ble_eq_true rfl)⟩) hD hS hA (fun w H locs hw hP hD hS => ?_)
      obtain ⟨⟨s0, ⟨sko, skc⟩, ⟨sbo, sbc⟩⟩, hf⟩ := hw
      have u0 := hf.at u0 (by omega)
      have uko := hf.at uko (by omega)
      have ukc := hf.at ukc (by omega)
      have ubo := hf.at ubo (by omega)
      have ubc := hf.at ubc (by omega)
      have v0 := hf.at v0 (by omega)
      have vko := hf.at vko (by omega)
      have vkc := hf.at vkc (by omega)
      have vbo := hf.at vbo (by omega)
      have vbc := hf.at vbc (by omega)
      have hfr := hfr.in hf (by omega) (by omega)
      refine lv_iconst (v := nI 0) hx hb d_S_becomeJoin_39 (by decide) ?_
      refine lv_istore_n (lv' := [(3, .int (nI 0)), (0, .ref (a 0)), (1, .ref (b 0)), (2, .ref (d 0))]) hx hb d_S_becomeJoin_40 rfl hl (by decide) rfl (fun ls hl => ?_)
      have lp_41 : ∀ (dd i : Nat), i + dd = n → ∀ (w : va_W) (H : Heap) (locs : List Loc) (ls : Array Slot), w[j]? = some (a 0, .inr (1, [.int (nI n), .ref (a 1), .ref (a 3), .int (nI 0)])) → w[j + 1]? = some (a 1, .inr (0, [.int (nI n), .ref (a 2)])) → w[j + 1 + 1]? = some (a 2, .inl (cJ, n * n, .inr (.inl (lr_all K n)))) → w[j + 3]? = some (a 3, .inr (0, [.int (nI n), .ref (a 4)])) → w[j + 3 + 1]? = some (a 4, .inl (cJ, n * n, .inr (.inl (lr_symO (lr_gJ B2 B3 n) n i (lr_allB B n))))) → w[j2]? = some (b 0, .inr (1, [.int (nI n), .ref (b 1), .ref (b 3), .int E2])) → w[j2 + 1]? = some (b 1, .inr (0, [.int (nI n), .ref (b 2)])) → w[j2 + 1 + 1]? = some (b 2, .inl (cJ, n * n, .inr (.inl K2))) → w[j2 + 3]? = some (b 3, .inr (0, [.int (nI n), .ref (b 4)])) → w[j2 + 3 + 1]? = some (b 4, .inl (cJ, n * n, .inr (.inl B2))) → w[j3]? = some (d 0, .inr (1, [.int (nI n), .ref (d 1), .ref (d 3), .int E3])) → w[j3 + 1]? = some (d 1, .inr (0, [.int (nI n), .ref (d 2)])) → w[j3 + 1 + 1]? = some (d 2, .inl (cJ, n * n, .inr (.inl K3))) → w[j3 + 3]? = some (d 3, .inr (0, [.int (nI n), .ref (d 4)])) → w[j3 + 3 + 1]? = some (d 4, .inl (cJ, n * n, .inr (.inl B3))) → gF j (j + 5) ws w → va_P D classes w H → va_D (va_A ws sz) w → va_S (va_A ws sz) s.heap H locs → lv_has ls 5 [(3, .int (nI i)), (0, .ref (a 0)), (1, .ref (b 0)), (2, .ref (d 0))] → W p l e ({ frames := 4, cells := 0, slots := 0, locals := 72 } : Room) s m ([.ref (a 0), .ref (b 0), .ref (d 0)] : List Value).toArray below meth c H locs 0 0 (MQ below (va_Qv (fun w => (∃ K1 B1 E1, lr_joinO K B n K2 B2 E2 K3 B3 E3 K1 B1 E1 ∧ shAt cJ w j a n K1 B1 E1) ∧ gF j (j + 5) ws w) (gw_B D classes (gT cJ cI cZ cS) ws sz) (va_A ws sz)) ([.ref (a 0), .ref (b 0), .ref (d 0)] : List Value).toArray s 0 0 (va_A ws sz)) (F0 m 41 ls []) := by
        intro dd
        induction dd with
        | zero =>
          intro i e_i w H locs ls s0 sko skc sbo sbc u0 uko ukc ubo ubc v0 vko vkc vbo vbc hfr hP hD hS hl
          have e0_i : n = i := by omega
          subst e0_i
          refine lv_iload_n hx hb d_S_becomeJoin_41 rfl (lv_at hl 0 rfl) ?_
          refine lv_aload_n hx hb d_S_becomeJoin_42 rfl (lv_at hl 1 rfl) ?_
          refine gf_S_9 hF hT hK hP s0 rfl d_S_becomeJoin_43 ?_
          refine lv_icmp_ge (tgt := 106) hx hb d_S_becomeJoin_46 (by decide) (fun c5 => ?_) (fun c5 => ?_)
          · have c5 := (nI_leI (a := n) (b := n) (by omega) (by omega)).mp c5
            refine lv_aload_n hx hb d_S_becomeJoin_106 rfl (lv_at hl 1 rfl) ?_
            refine gw_cv (gc_S_82 (As := []) (rest := []) hF hT (c_S_keepBounds ⟨s0, ⟨sko, skc⟩, ⟨sbo, sbc⟩⟩ hn he) ⟨(Nat.le_of_ble_eq_true rfl), (Nat.le_of_ble_eq_true rfl)⟩ rfl rfl hK hN hP hD s0 rfl hl.1 rfl (Nat.le_of_ble_eq_true rfl) d_S_becomeJoin_107 ⟨(Nat.le_of_ble_eq_true rfl), (Nat.le_of_ble_eq_true rfl)⟩) hD hS hA (fun w H locs hw hP hD hS => ?_)
            obtain ⟨⟨K6, o6, ⟨s0, ⟨sko, skc⟩, ⟨sbo, sbc⟩⟩⟩, hf⟩ := hw
            have u0 := hf.at u0 (by omega)
            have uko := hf.at uko (by omega)
            have ukc := hf.at ukc (by omega)
            have ubo := hf.at ubo (by omega)
            have ubc := hf.at ubc (by omega)
            have v0 := hf.at v0 (by omega)
            have vko := hf.at vko (by omega)
            have vkc := hf.at vkc (by omega)
            have vbo := hf.at vbo (by omega)
            have vbc := hf.at vbc (by omega)
            have hfr := hfr.in hf (by omega) (by omega)
            exact gw_vret hx hb hr hlocks hK hP hD hS (Nat.le_of_ble_eq_true rfl) (Nat.le_of_ble_eq_true rfl) d_S_becomeJoin_110 ⟨⟨_, _, _, Or.inr (Or.inr ⟨c1, c4, rfl, rfl, o6⟩), ⟨s0, ⟨sko, skc⟩, ⟨sbo, sbc⟩⟩⟩, hfr⟩
          · have c5 : ¬ (n ≤ n) := fun z => c5 ((nI_leI (a := n) (b := n) (by omega) (by omega)).mpr z)
            exfalso; omega
        | succ dd ih_41 =>
          intro i e_i w H locs ls s0 sko skc sbo sbc u0 uko ukc ubo ubc v0 vko vkc vbo vbc hfr hP hD hS hl
          refine lv_iload_n hx hb d_S_becomeJoin_41 rfl (lv_at hl 0 rfl) ?_
          refine lv_aload_n hx hb d_S_becomeJoin_42 rfl (lv_at hl 1 rfl) ?_
          refine gf_S_9 hF hT hK hP s0 rfl d_S_becomeJoin_43 ?_
          refine lv_icmp_ge (tgt := 106) hx hb d_S_becomeJoin_46 (by decide) (fun c7 => ?_) (fun c7 => ?_)
          · have c7 := (nI_leI (a := n) (b := i) (by omega) (by omega)).mp c7
            exfalso; omega
          · have c7 : ¬ (n ≤ i) := fun z => c7 ((nI_leI (a := n) (b := i) (by omega) (by omega)).mpr z)
            refine lv_iload_n hx hb d_S_becomeJoin_49 rfl (lv_at hl 0 rfl) ?_
            refine lv_istore (lv' := [(4, .int (nI i)), (3, .int (nI i)), (0, .ref (a 0)), (1, .ref (b 0)), (2, .ref (d 0))]) hx hb d_S_becomeJoin_50 hl (by decide) rfl (fun ls hl => ?_)
            have lp_52 : ∀ (dd t : Nat), t + dd = (n - i) → ∀ (w : va_W) (H : Heap) (locs : List Loc) (ls : Array Slot), w[j]? = some (a 0, .inr (1, [.int (nI n), .ref (a 1), .ref (a 3), .int (nI 0)])) → w[j + 1]? = some (a 1, .inr (0, [.int (nI n), .ref (a 2)])) → w[j + 1 + 1]? = some (a 2, .inl (cJ, n * n, .inr (.inl (lr_all K n)))) → w[j + 3]? = some (a 3, .inr (0, [.int (nI n), .ref (a 4)])) → w[j + 3 + 1]? = some (a 4, .inl (cJ, n * n, .inr (.inl (lr_symI (lr_gJ B2 B3 n) n i t (lr_symO (lr_gJ B2 B3 n) n i (lr_allB B n)))))) → w[j2]? = some (b 0, .inr (1, [.int (nI n), .ref (b 1), .ref (b 3), .int E2])) → w[j2 + 1]? = some (b 1, .inr (0, [.int (nI n), .ref (b 2)])) → w[j2 + 1 + 1]? = some (b 2, .inl (cJ, n * n, .inr (.inl K2))) → w[j2 + 3]? = some (b 3, .inr (0, [.int (nI n), .ref (b 4)])) → w[j2 + 3 + 1]? = some (b 4, .inl (cJ, n * n, .inr (.inl B2))) → w[j3]? = some (d 0, .inr (1, [.int (nI n), .ref (d 1), .ref (d 3), .int E3])) → w[j3 + 1]? = some (d 1, .inr (0, [.int (nI n), .ref (d 2)])) → w[j3 + 1 + 1]? = some (d 2, .inl (cJ, n * n, .inr (.inl K3))) → w[j3 + 3]? = some (d 3, .inr (0, [.int (nI n), .ref (d 4)])) → w[j3 + 3 + 1]? = some (d 4, .inl (cJ, n * n, .inr (.inl B3))) → gF j (j + 5) ws w → va_P D classes w H → va_D (va_A ws sz) w → va_S (va_A ws sz) s.heap H locs → lv_has ls 5 [(4, .int (nI (i + t))), (3, .int (nI i)), (0, .ref (a 0)), (1, .ref (b 0)), (2, .ref (d 0))] → W p l e ({ frames := 4, cells := 0, slots := 0, locals := 72 } : Room) s m ([.ref (a 0), .ref (b 0), .ref (d 0)] : List Value).toArray below meth c H locs 0 0 (MQ below (va_Qv (fun w => (∃ K1 B1 E1, lr_joinO K B n K2 B2 E2 K3 B3 E3 K1 B1 E1 ∧ shAt cJ w j a n K1 B1 E1) ∧ gF j (j + 5) ws w) (gw_B D classes (gT cJ cI cZ cS) ws sz) (va_A ws sz)) ([.ref (a 0), .ref (b 0), .ref (d 0)] : List Value).toArray s 0 0 (va_A ws sz)) (F0 m 52 ls []) := by
              intro dd
              induction dd with
              | zero =>
                intro t e_t w H locs ls s0 sko skc sbo sbc u0 uko ukc ubo ubc v0 vko vkc vbo vbc hfr hP hD hS hl
                have e0_t : (n - i) = t := by omega
                subst e0_t
                refine lv_iload hx hb d_S_becomeJoin_52 (lv_at hl 0 rfl) ?_
                refine lv_aload_n hx hb d_S_becomeJoin_54 rfl (lv_at hl 2 rfl) ?_
                refine gf_S_9 hF hT hK hP s0 rfl d_S_becomeJoin_55 ?_
                refine lv_icmp_ge (tgt := 100) hx hb d_S_becomeJoin_58 (by decide) (fun c8 => ?_) (fun c8 => ?_)
                · have c8 := (nI_leI (a := n) (b := (i + (n - i))) (by omega) (by omega)).mp c8
                  refine lv_iinc (v := nI (i + 1)) (lv' := [(3, .int (nI (i + 1))), (4, .int (nI (i + (n - i)))), (0, .ref (a 0)), (1, .ref (b 0)), (2, .ref (d 0))]) hx hb d_S_becomeJoin_100 hl (k := 1) rfl (gx_inc _) (by decide) rfl (fun ls hl => ?_)
                  refine lv_goto (tgt := 41) hx hb d_S_becomeJoin_103 (by decide) ?_
                  exact ih_41 (i + 1) (by omega) _ _ _ _ s0 sko skc sbo sbc u0 uko ukc ubo ubc v0 vko vkc vbo vbc hfr hP hD hS (lv_sub hl [0, 2, 3, 4] rfl)
                · have c8 : ¬ (n ≤ i + (n - i)) := fun z => c8 ((nI_leI (a := n) (b := (i + (n - i))) (by omega) (by omega)).mpr z)
                  exfalso; omega
              | succ dd ih_52 =>
                intro t e_t w H locs ls s0 sko skc sbo sbc u0 uko ukc ubo ubc v0 vko vkc vbo vbc hfr hP hD hS hl
                refine lv_iload hx hb d_S_becomeJoin_52 (lv_at hl 0 rfl) ?_
                refine lv_aload_n hx hb d_S_becomeJoin_54 rfl (lv_at hl 2 rfl) ?_
                refine gf_S_9 hF hT hK hP s0 rfl d_S_becomeJoin_55 ?_
                refine lv_icmp_ge (tgt := 100) hx hb d_S_becomeJoin_58 (by decide) (fun c9 => ?_) (fun c9 => ?_)
                · have c9 := (nI_leI (a := n) (b := (i + t)) (by omega) (by omega)).mp c9
                  exfalso; omega
                · have c9 : ¬ (n ≤ i + t) := fun z => c9 ((nI_leI (a := n) (b := (i + t)) (by omega) (by omega)).mpr z)
                  refine lv_aload_n hx hb d_S_becomeJoin_61 rfl (lv_at hl 2 rfl) ?_
                  refine gf_S_24 hF hT hK hP s0 rfl d_S_becomeJoin_62 ?_
                  refine lv_iload_n hx hb d_S_becomeJoin_65 rfl (lv_at hl 1 rfl) ?_
                  refine lv_iload hx hb d_S_becomeJoin_66 (lv_at hl 0 rfl) ?_
                  refine lv_aload_n hx hb d_S_becomeJoin_68 rfl (lv_at hl 3 rfl) ?_
                  refine gf_S_24 hF hT hK hP u0 rfl d_S_becomeJoin_69 ?_
                  refine lv_iload_n hx hb d_S_becomeJoin_72 rfl (lv_at hl 1 rfl) ?_
                  refine lv_iload hx hb d_S_becomeJoin_73 (lv_at hl 0 rfl) ?_
                  refine gw_cl0 (gc_S_73 (As := [.int (nI i), .int (nI (i + t))]) (rest := [.int (nI (i + t)), .int (nI i), .ref (a 3)]) hF hT (c_T_at ⟨ubo, ubc⟩ hn (by omega) (by omega)) ⟨(Nat.le_of_ble_eq_true rfl), (Nat.le_of_ble_eq_true rfl)⟩ rfl rfl hK hN hP hD ubo rfl hl.1 rfl (Nat.le_of_ble_eq_true rfl) d_S_becomeJoin_75 ⟨(Nat.le_of_ble_eq_true rfl), (Nat.le_of_ble_eq_true rfl)⟩) hD hS hA (fun r10 H locs e_r10 hP hD hS => ?_)
                  subst e_r10
                  refine lv_aload_n hx hb d_S_becomeJoin_78 rfl (lv_at hl 4 rfl) ?_
                  refine gf_S_24 hF hT hK hP v0 rfl d_S_becomeJoin_79 ?_
                  refine lv_iload_n hx hb d_S_becomeJoin_82 rfl (lv_at hl 1 rfl) ?_
                  refine lv_iload hx hb d_S_becomeJoin_83 (lv_at hl 0 rfl) ?_
                  refine gw_cl0 (gc_S_73 (As := [.int (nI i), .int (nI (i + t))]) (rest := [.long (B2 (i * n + (i + t))), .int (nI (i + t)), .int (nI i), .ref (a 3)]) hF hT (c_T_at ⟨vbo, vbc⟩ hn (by omega) (by omega)) ⟨(Nat.le_of_ble_eq_true rfl), (Nat.le_of_ble_eq_true rfl)⟩ rfl rfl hK hN hP hD vbo rfl hl.1 rfl (Nat.le_of_ble_eq_true rfl) d_S_becomeJoin_85 ⟨(Nat.le_of_ble_eq_true rfl), (Nat.le_of_ble_eq_true rfl)⟩) hD hS hA (fun r11 H locs e_r11 hP hD hS => ?_)
                  subst e_r11
                  refine va_mmax_long hx hb (by rw [hml]; exact hl.1.symm) hown (hts _ (hT _ wm_2_156)) (hts _ (hT _ wm_2_157)) (hts _ (hT _ wm_1_2)) (hts _ (hT _ wm_2_158)) (Nat.le_of_ble_eq_true rfl) (Nat.le_of_ble_eq_true rfl) (Nat.le_of_ble_eq_true rfl) (Nat.le_of_ble_eq_true rfl) d_S_becomeJoin_88 ?_
                  refine gx_l (y := lr_gJ B2 B3 n i (i + t)) rfl ?_
                  refine gw_cv (gc_S_79 (As := [.int (nI i), .int (nI (i + t)), .long (lr_gJ B2 B3 n i (i + t))]) (rest := []) hF hT (c_T_store ⟨sbo, sbc⟩ hn (by omega) (by omega)) ⟨(Nat.le_of_ble_eq_true rfl), (Nat.le_of_ble_eq_true rfl)⟩ rfl rfl hK hN hP hD sbo rfl hl.1 rfl (Nat.le_of_ble_eq_true rfl) d_S_becomeJoin_91 ⟨(Nat.le_of_ble_eq_true rfl), (Nat.le_of_ble_eq_true rfl)⟩) hD hS hA (fun w H locs hw hP hD hS => ?_)
                  obtain ⟨⟨sbo, sbc⟩, hf⟩ := hw
                  have s0 := hf.at s0 (by omega)
                  have sko := hf.at sko (by omega)
                  have skc := hf.at skc (by omega)
                  have u0 := hf.at u0 (by omega)
                  have uko := hf.at uko (by omega)
                  have ukc := hf.at ukc (by omega)
                  have ubo := hf.at ubo (by omega)
                  have ubc := hf.at ubc (by omega)
                  have v0 := hf.at v0 (by omega)
                  have vko := hf.at vko (by omega)
                  have vkc := hf.at vkc (by omega)
                  have vbo := hf.at vbo (by omega)
                  have vbc := hf.at vbc (by omega)
                  have hfr := hfr.in hf (by omega) (by omega)
                  refine lv_iinc (v := nI (i + t + 1)) (lv' := [(4, .int (nI (i + t + 1))), (3, .int (nI i)), (0, .ref (a 0)), (1, .ref (b 0)), (2, .ref (d 0))]) hx hb d_S_becomeJoin_94 hl (k := 0) rfl (gx_inc _) (by decide) rfl (fun ls hl => ?_)
                  refine lv_goto (tgt := 52) hx hb d_S_becomeJoin_97 (by decide) ?_
                  exact ih_52 (t + 1) (by omega) _ _ _ _ s0 sko skc sbo sbc u0 uko ukc ubo ubc v0 vko vkc vbo vbc hfr hP hD hS (lv_sub hl [0, 1, 2, 3, 4] rfl)
            exact lp_52 (n - i) 0 (by omega) _ _ _ _ s0 sko skc sbo sbc u0 uko ukc ubo ubc v0 vko vkc vbo vbc hfr hP hD hS (lv_sub hl [0, 1, 2, 3, 4] rfl)
      exact lp_41 n 0 (by omega) _ _ _ _ s0 sko skc sbo sbc u0 uko ukc ubo ubc v0 vko vkc vbo vbc hfr hP hD hS (lv_sub hl [0, 1, 2, 3] rfl)
    · refine lv_aload_n hx hb d_S_becomeJoin_14 rfl (lv_at hl 0 rfl) ?_
      refine lv_aload_n hx hb d_S_becomeJoin_15 rfl (lv_at hl 1 rfl) ?_
      refine gf_S_31 hF hT hK hP u0 rfl d_S_becomeJoin_16 ?_
      refine lv_if_eq (tgt := 26) hx hb d_S_becomeJoin_19 (by decide) (fun c12 => ?_) (fun c12 => ?_)
      · refine lv_aload_n hx hb d_S_becomeJoin_26 rfl (lv_at hl 1 rfl) ?_
        refine gw_cv (gc_S_85 (As := [.ref (b 0)]) (rest := []) hF hT (c_S_becomeLike ⟨s0, ⟨sko, skc⟩, ⟨sbo, sbc⟩⟩ hn he ⟨u0, ⟨uko, ukc⟩, ⟨ubo, ubc⟩⟩ hE2 hj2) ⟨(Nat.le_of_ble_eq_true rfl), (Nat.le_of_ble_eq_true rfl)⟩ rfl rfl hK hN hP hD s0 rfl hl.1 rfl (Nat.le_of_ble_eq_true rfl) d_S_becomeJoin_27 ⟨(Nat.le_of_ble_eq_true rfl), (Nat.le_of_ble_eq_true rfl)⟩) hD hS hA (fun w H locs hw hP hD hS => ?_)
        obtain ⟨⟨s0, ⟨sko, skc⟩, ⟨sbo, sbc⟩⟩, hf⟩ := hw
        have u0 := hf.at u0 (by omega)
        have uko := hf.at uko (by omega)
        have ukc := hf.at ukc (by omega)
        have ubo := hf.at ubo (by omega)
        have ubc := hf.at ubc (by omega)
        have v0 := hf.at v0 (by omega)
        have vko := hf.at vko (by omega)
        have vkc := hf.at vkc (by omega)
        have vbo := hf.at vbo (by omega)
        have vbc := hf.at vbc (by omega)
        have hfr := hfr.in hf (by omega) (by omega)
        refine lv_aload_n hx hb d_S_becomeJoin_30 rfl (lv_at hl 0 rfl) ?_
        refine gw_cv (gc_S_82 (As := []) (rest := []) hF hT (c_S_keepBounds ⟨s0, ⟨sko, skc⟩, ⟨sbo, sbc⟩⟩ hn he) ⟨(Nat.le_of_ble_eq_true rfl), (Nat.le_of_ble_eq_true rfl)⟩ rfl rfl hK hN hP hD s0 rfl hl.1 rfl (Nat.le_of_ble_eq_true rfl) d_S_becomeJoin_31 ⟨(Nat.le_of_ble_eq_true rfl), (Nat.le_of_ble_eq_true rfl)⟩) hD hS hA (fun w H locs hw hP hD hS => ?_)
        obtain ⟨⟨K13, o13, ⟨s0, ⟨sko, skc⟩, ⟨sbo, sbc⟩⟩⟩, hf⟩ := hw
        have u0 := hf.at u0 (by omega)
        have uko := hf.at uko (by omega)
        have ukc := hf.at ukc (by omega)
        have ubo := hf.at ubo (by omega)
        have ubc := hf.at ubc (by omega)
        have v0 := hf.at v0 (by omega)
        have vko := hf.at vko (by omega)
        have vkc := hf.at vkc (by omega)
        have vbo := hf.at vbo (by omega)
        have vbc := hf.at vbc (by omega)
        have hfr := hfr.in hf (by omega) (by omega)
        exact gw_vret hx hb hr hlocks hK hP hD hS (Nat.le_of_ble_eq_true rfl) (Nat.le_of_ble_eq_true rfl) d_S_becomeJoin_34 ⟨⟨_, _, _, Or.inr (Or.inl ⟨c1, c4, _, ⟨rfl, rfl, rfl⟩, o13⟩), ⟨s0, ⟨sko, skc⟩, ⟨sbo, sbc⟩⟩⟩, hfr⟩
      · exact absurd ‹E2 = 0› ‹¬ E2 = 0›

set_option maxHeartbeats 4000000 in
set_option maxRecDepth 100000 in
theorem c_S_becomeWidened {l : Launch} {D : va_G} {cJ cI cZ cS : ClassId} {ws : va_W} {sz : Nat} {j n : Nat} {a : Nat → Nat} {K B : Nat → Int64} {E : Int32} (hs : shAt cJ ws j a n K B E) (hn : n ≤ 10) (he : n % 2 = 0) {j2 : Nat} {b : Nat → Nat} {K2 B2 : Nat → Int64} {E2 : Int32} (hs2 : shAt cJ ws j2 b n K2 B2 E2) (hE2 : E2 = 0 ∨ E2 = 1) (hj2 : j2 + 5 ≤ j ∨ j + 5 ≤ j2) {j3 : Nat} {d : Nat → Nat} {K3 B3 : Nat → Int64} {E3 : Int32} (hs3 : shAt cJ ws j3 d n K3 B3 E3) (hE3 : E3 = 0 ∨ E3 = 1) (hj3 : j3 + 5 ≤ j ∨ j + 5 ≤ j3) : Met l y_S_becomeWidened w_S_becomeWidened ({ frames := 6, cells := 0, slots := 0, locals := 111 } : Room) (gw_Pc D classes (gT cJ cI cZ cS) [.ref (a 0), .ref (b 0), .ref (d 0)] ws sz) (va_Qv (fun w => (∃ K1 B1 E1, lr_widO K B n K2 B2 E2 K3 B3 E3 K1 B1 E1 ∧ shAt cJ w j a n K1 B1 E1) ∧ gF j (j + 5) ws w) (gw_B D classes (gT cJ cI cZ cS) ws sz) (va_A ws sz)) 0 0 (va_A ws sz) := by
  refine gw_head (by decide) (Nat.le_of_ble_eq_true rfl) (fun p e s m below meth c hsz hx hb hr hlocks hml hown hnm hts hK hN hP hD hS hA ls hl => ?_)
  have hown : s.vm.findClass R_S = some m.cls := hown
  have hT : ∀ w ∈ wG, w ∈ Cond.code y_S_becomeWidened b_S_becomeWidened 7 none :: wG := gd_t _
  have hF : CallFix p m c b_S_becomeWidened 7 s ([.ref (a 0), .ref (b 0), .ref (d 0)] : List Value).toArray (Cond.code y_S_becomeWidened b_S_becomeWidened 7 none :: wG) R_S := ⟨hx, hb, hml, hown, hts⟩
  have hl : lv_has ls 7 [(0, .ref (a 0)), (1, .ref (b 0)), (2, .ref (d 0))] := hl
  obtain ⟨s0, ⟨sko, skc⟩, ⟨sbo, sbc⟩⟩ := hs
  obtain ⟨u0, ⟨uko, ukc⟩, ⟨ubo, ubc⟩⟩ := hs2
  obtain ⟨v0, ⟨vko, vkc⟩, ⟨vbo, vbc⟩⟩ := hs3
  have hfr : gF j (j + 5) ws ws := gF.rf
  refine lv_aload_n hx hb d_S_becomeWidened_0 rfl (lv_at hl 1 rfl) ?_
  refine gf_S_31 hF hT hK hP u0 rfl d_S_becomeWidened_1 ?_
  refine lv_if_ne (tgt := 14) hx hb d_S_becomeWidened_4 (by decide) (fun c1 => ?_) (fun c1 => ?_)
  · refine lv_aload_n hx hb d_S_becomeWidened_14 rfl (lv_at hl 0 rfl) ?_
    refine lv_aload_n hx hb d_S_becomeWidened_15 rfl (lv_at hl 1 rfl) ?_
    refine gf_S_31 hF hT hK hP u0 rfl d_S_becomeWidened_16 ?_
    refine lv_if_eq (tgt := 26) hx hb d_S_becomeWidened_19 (by decide) (fun c2 => ?_) (fun c2 => ?_)
    · exact absurd ‹E2 = 0› ‹¬ E2 = 0›
    · refine lv_aload_n hx hb d_S_becomeWidened_22 rfl (lv_at hl 2 rfl) ?_
      refine lv_goto (tgt := 27) hx hb d_S_becomeWidened_23 (by decide) ?_
      refine gw_cv (gc_S_85 (As := [.ref (d 0)]) (rest := []) hF hT (c_S_becomeLike ⟨s0, ⟨sko, skc⟩, ⟨sbo, sbc⟩⟩ hn he ⟨v0, ⟨vko, vkc⟩, ⟨vbo, vbc⟩⟩ hE3 hj3) ⟨(Nat.le_of_ble_eq_true rfl), (Nat.le_of_ble_eq_true rfl)⟩ rfl rfl hK hN hP hD s0 rfl hl.1 rfl (Nat.le_of_ble_eq_true rfl) d_S_becomeWidened_27 ⟨(Nat.le_of_ble_eq_true rfl), (Nat.le_of_ble_eq_true rfl)⟩) hD hS hA (fun w H locs hw hP hD hS => ?_)
      obtain ⟨⟨s0, ⟨sko, skc⟩, ⟨sbo, sbc⟩⟩, hf⟩ := hw
      have u0 := hf.at u0 (by omega)
      have uko := hf.at uko (by omega)
      have ukc := hf.at ukc (by omega)
      have ubo := hf.at ubo (by omega)
      have ubc := hf.at ubc (by omega)
      have v0 := hf.at v0 (by omega)
      have vko := hf.at vko (by omega)
      have vkc := hf.at vkc (by omega)
      have vbo := hf.at vbo (by omega)
      have vbc := hf.at vbc (by omega)
      have hfr := hfr.in hf (by omega) (by omega)
      exact gw_vret hx hb hr hlocks hK hP hD hS (Nat.le_of_ble_eq_true rfl) (Nat.le_of_ble_eq_true rfl) d_S_becomeWidened_30 ⟨⟨_, _, _, Or.inl ⟨c1, rfl, rfl, rfl⟩, ⟨s0, ⟨sko, skc⟩, ⟨sbo, sbc⟩⟩⟩, hfr⟩
  · refine lv_aload_n hx hb d_S_becomeWidened_7 rfl (lv_at hl 2 rfl) ?_
    refine gf_S_31 hF hT hK hP v0 rfl d_S_becomeWidened_8 ?_
    refine lv_if_eq (tgt := 31) hx hb d_S_becomeWidened_11 (by decide) (fun c3 => ?_) (fun c3 => ?_)
    · refine lv_aload_n hx hb d_S_becomeWidened_31 rfl (lv_at hl 0 rfl) ?_
      refine gw_cv (gc_S_38 (As := []) (rest := []) hF hT (c_S_becomeAll ⟨s0, ⟨sko, skc⟩, ⟨sbo, sbc⟩⟩ hn he) ⟨(Nat.le_of_ble_eq_true rfl), (Nat.le_of_ble_eq_true rfl)⟩ rfl rfl hK hN hP hD s0 rfl hl.1 rfl (Nat.le_of_ble_eq_true rfl) d_S_becomeWidened_32 ⟨(Nat.le_of_ble_eq_true rfl), (Nat.le_of_ble_eq_true rfl)⟩) hD hS hA (fun w H locs hw hP hD hS => ?_)
      obtain ⟨⟨s0, ⟨sko, skc⟩, ⟨sbo, sbc⟩⟩, hf⟩ := hw
      have u0 := hf.at u0 (by omega)
      have uko := hf.at uko (by omega)
      have ukc := hf.at ukc (by omega)
      have ubo := hf.at ubo (by omega)
      have ubc := hf.at ubc (by omega)
      have v0 := hf.at v0 (by omega)
      have vko := hf.at vko (by omega)
      have vkc := hf.at vkc (by omega)
      have vbo := hf.at vbo (by omega)
      have vbc := hf.at vbc (by omega)
      have hfr := hfr.in hf (by omega) (by omega)
      refine lv_iconst (v := nI 0) hx hb d_S_becomeWidened_35 (by decide) ?_
      refine lv_istore_n (lv' := [(3, .int (nI 0)), (0, .ref (a 0)), (1, .ref (b 0)), (2, .ref (d 0))]) hx hb d_S_becomeWidened_36 rfl hl (by decide) rfl (fun ls hl => ?_)
      have lp_37 : ∀ (dd i : Nat), i + dd = n → ∀ (w : va_W) (H : Heap) (locs : List Loc) (ls : Array Slot), w[j]? = some (a 0, .inr (1, [.int (nI n), .ref (a 1), .ref (a 3), .int (nI 0)])) → w[j + 1]? = some (a 1, .inr (0, [.int (nI n), .ref (a 2)])) → w[j + 1 + 1]? = some (a 2, .inl (cJ, n * n, .inr (.inl (lr_symO (lr_gW K2 B3 n) n i (lr_all K n))))) → w[j + 3]? = some (a 3, .inr (0, [.int (nI n), .ref (a 4)])) → w[j + 3 + 1]? = some (a 4, .inl (cJ, n * n, .inr (.inl (lr_allB B n)))) → w[j2]? = some (b 0, .inr (1, [.int (nI n), .ref (b 1), .ref (b 3), .int E2])) → w[j2 + 1]? = some (b 1, .inr (0, [.int (nI n), .ref (b 2)])) → w[j2 + 1 + 1]? = some (b 2, .inl (cJ, n * n, .inr (.inl K2))) → w[j2 + 3]? = some (b 3, .inr (0, [.int (nI n), .ref (b 4)])) → w[j2 + 3 + 1]? = some (b 4, .inl (cJ, n * n, .inr (.inl B2))) → w[j3]? = some (d 0, .inr (1, [.int (nI n), .ref (d 1), .ref (d 3), .int E3])) → w[j3 + 1]? = some (d 1, .inr (0, [.int (nI n), .ref (d 2)])) → w[j3 + 1 + 1]? = some (d 2, .inl (cJ, n * n, .inr (.inl K3))) → w[j3 + 3]? = some (d 3, .inr (0, [.int (nI n), .ref (d 4)])) → w[j3 + 3 + 1]? = some (d 4, .inl (cJ, n * n, .inr (.inl B3))) → gF j (j + 5) ws w → va_P D classes w H → va_D (va_A ws sz) w → va_S (va_A ws sz) s.heap H locs → lv_has ls 7 [(3, .int (nI i)), (0, .ref (a 0)), (1, .ref (b 0)), (2, .ref (d 0))] → W p l e ({ frames := 6, cells := 0, slots := 0, locals := 111 } : Room) s m ([.ref (a 0), .ref (b 0), .ref (d 0)] : List Value).toArray below meth c H locs 0 0 (MQ below (va_Qv (fun w => (∃ K1 B1 E1, lr_widO K B n K2 B2 E2 K3 B3 E3 K1 B1 E1 ∧ shAt cJ w j a n K1 B1 E1) ∧ gF j (j + 5) ws w) (gw_B D classes (gT cJ cI cZ cS) ws sz) (va_A ws sz)) ([.ref (a 0), .ref (b 0), .ref (d 0)] : List Value).toArray s 0 0 (va_A ws sz)) (F0 m 37 ls []) := by
        intro dd
        induction dd with
        | zero =>
          intro i e_i w H locs ls s0 sko skc sbo sbc u0 uko ukc ubo ubc v0 vko vkc vbo vbc hfr hP hD hS hl
          have e0_i : n = i := by omega
          subst e0_i
          refine lv_iload_n hx hb d_S_becomeWidened_37 rfl (lv_at hl 0 rfl) ?_
          refine lv_aload_n hx hb d_S_becomeWidened_38 rfl (lv_at hl 1 rfl) ?_
          refine gf_S_9 hF hT hK hP s0 rfl d_S_becomeWidened_39 ?_
          refine lv_icmp_ge (tgt := 115) hx hb d_S_becomeWidened_42 (by decide) (fun c4 => ?_) (fun c4 => ?_)
          · have c4 := (nI_leI (a := n) (b := n) (by omega) (by omega)).mp c4
            refine lv_aload_n hx hb d_S_becomeWidened_115 rfl (lv_at hl 1 rfl) ?_
            refine gw_cv (gc_S_70 (As := []) (rest := []) hF hT (c_S_closeKeptRows ⟨s0, ⟨sko, skc⟩, ⟨sbo, sbc⟩⟩ hn he) ⟨(Nat.le_of_ble_eq_true rfl), (Nat.le_of_ble_eq_true rfl)⟩ rfl rfl hK hN hP hD s0 rfl hl.1 rfl (Nat.le_of_ble_eq_true rfl) d_S_becomeWidened_116 ⟨(Nat.le_of_ble_eq_true rfl), (Nat.le_of_ble_eq_true rfl)⟩) hD hS hA (fun w H locs hw hP hD hS => ?_)
            obtain ⟨⟨K5, B5, E5, o5, ⟨s0, ⟨sko, skc⟩, ⟨sbo, sbc⟩⟩⟩, hf⟩ := hw
            have u0 := hf.at u0 (by omega)
            have uko := hf.at uko (by omega)
            have ukc := hf.at ukc (by omega)
            have ubo := hf.at ubo (by omega)
            have ubc := hf.at ubc (by omega)
            have v0 := hf.at v0 (by omega)
            have vko := hf.at vko (by omega)
            have vkc := hf.at vkc (by omega)
            have vbo := hf.at vbo (by omega)
            have vbc := hf.at vbc (by omega)
            have hfr := hfr.in hf (by omega) (by omega)
            exact gw_vret hx hb hr hlocks hK hP hD hS (Nat.le_of_ble_eq_true rfl) (Nat.le_of_ble_eq_true rfl) d_S_becomeWidened_119 ⟨⟨_, _, _, Or.inr (Or.inr ⟨c1, c3, o5⟩), ⟨s0, ⟨sko, skc⟩, ⟨sbo, sbc⟩⟩⟩, hfr⟩
          · have c4 : ¬ (n ≤ n) := fun z => c4 ((nI_leI (a := n) (b := n) (by omega) (by omega)).mpr z)
            exfalso; omega
        | succ dd ih_37 =>
          intro i e_i w H locs ls s0 sko skc sbo sbc u0 uko ukc ubo ubc v0 vko vkc vbo vbc hfr hP hD hS hl
          refine lv_iload_n hx hb d_S_becomeWidened_37 rfl (lv_at hl 0 rfl) ?_
          refine lv_aload_n hx hb d_S_becomeWidened_38 rfl (lv_at hl 1 rfl) ?_
          refine gf_S_9 hF hT hK hP s0 rfl d_S_becomeWidened_39 ?_
          refine lv_icmp_ge (tgt := 115) hx hb d_S_becomeWidened_42 (by decide) (fun c6 => ?_) (fun c6 => ?_)
          · have c6 := (nI_leI (a := n) (b := i) (by omega) (by omega)).mp c6
            exfalso; omega
          · have c6 : ¬ (n ≤ i) := fun z => c6 ((nI_leI (a := n) (b := i) (by omega) (by omega)).mpr z)
            refine lv_iload_n hx hb d_S_becomeWidened_45 rfl (lv_at hl 0 rfl) ?_
            refine lv_istore (lv' := [(4, .int (nI i)), (3, .int (nI i)), (0, .ref (a 0)), (1, .ref (b 0)), (2, .ref (d 0))]) hx hb d_S_becomeWidened_46 hl (by decide) rfl (fun ls hl => ?_)
            have lp_48 : ∀ (dd t : Nat), t + dd = (n - i) → ∀ (w : va_W) (H : Heap) (locs : List Loc) (ls : Array Slot), w[j]? = some (a 0, .inr (1, [.int (nI n), .ref (a 1), .ref (a 3), .int (nI 0)])) → w[j + 1]? = some (a 1, .inr (0, [.int (nI n), .ref (a 2)])) → w[j + 1 + 1]? = some (a 2, .inl (cJ, n * n, .inr (.inl (lr_symI (lr_gW K2 B3 n) n i t (lr_symO (lr_gW K2 B3 n) n i (lr_all K n)))))) → w[j + 3]? = some (a 3, .inr (0, [.int (nI n), .ref (a 4)])) → w[j + 3 + 1]? = some (a 4, .inl (cJ, n * n, .inr (.inl (lr_allB B n)))) → w[j2]? = some (b 0, .inr (1, [.int (nI n), .ref (b 1), .ref (b 3), .int E2])) → w[j2 + 1]? = some (b 1, .inr (0, [.int (nI n), .ref (b 2)])) → w[j2 + 1 + 1]? = some (b 2, .inl (cJ, n * n, .inr (.inl K2))) → w[j2 + 3]? = some (b 3, .inr (0, [.int (nI n), .ref (b 4)])) → w[j2 + 3 + 1]? = some (b 4, .inl (cJ, n * n, .inr (.inl B2))) → w[j3]? = some (d 0, .inr (1, [.int (nI n), .ref (d 1), .ref (d 3), .int E3])) → w[j3 + 1]? = some (d 1, .inr (0, [.int (nI n), .ref (d 2)])) → w[j3 + 1 + 1]? = some (d 2, .inl (cJ, n * n, .inr (.inl K3))) → w[j3 + 3]? = some (d 3, .inr (0, [.int (nI n), .ref (d 4)])) → w[j3 + 3 + 1]? = some (d 4, .inl (cJ, n * n, .inr (.inl B3))) → gF j (j + 5) ws w → va_P D classes w H → va_D (va_A ws sz) w → va_S (va_A ws sz) s.heap H locs → lv_has ls 7 [(4, .int (nI (i + t))), (3, .int (nI i)), (0, .ref (a 0)), (1, .ref (b 0)), (2, .ref (d 0))] → W p l e ({ frames := 6, cells := 0, slots := 0, locals := 111 } : Room) s m ([.ref (a 0), .ref (b 0), .ref (d 0)] : List Value).toArray below meth c H locs 0 0 (MQ below (va_Qv (fun w => (∃ K1 B1 E1, lr_widO K B n K2 B2 E2 K3 B3 E3 K1 B1 E1 ∧ shAt cJ w j a n K1 B1 E1) ∧ gF j (j + 5) ws w) (gw_B D classes (gT cJ cI cZ cS) ws sz) (va_A ws sz)) ([.ref (a 0), .ref (b 0), .ref (d 0)] : List Value).toArray s 0 0 (va_A ws sz)) (F0 m 48 ls []) := by
              intro dd
              induction dd with
              | zero =>
                intro t e_t w H locs ls s0 sko skc sbo sbc u0 uko ukc ubo ubc v0 vko vkc vbo vbc hfr hP hD hS hl
                have e0_t : (n - i) = t := by omega
                subst e0_t
                refine lv_iload hx hb d_S_becomeWidened_48 (lv_at hl 0 rfl) ?_
                refine lv_aload_n hx hb d_S_becomeWidened_50 rfl (lv_at hl 2 rfl) ?_
                refine gf_S_9 hF hT hK hP s0 rfl d_S_becomeWidened_51 ?_
                refine lv_icmp_ge (tgt := 109) hx hb d_S_becomeWidened_54 (by decide) (fun c7 => ?_) (fun c7 => ?_)
                · have c7 := (nI_leI (a := n) (b := (i + (n - i))) (by omega) (by omega)).mp c7
                  refine lv_iinc (v := nI (i + 1)) (lv' := [(3, .int (nI (i + 1))), (4, .int (nI (i + (n - i)))), (0, .ref (a 0)), (1, .ref (b 0)), (2, .ref (d 0))]) hx hb d_S_becomeWidened_109 hl (k := 1) rfl (gx_inc _) (by decide) rfl (fun ls hl => ?_)
                  refine lv_goto (tgt := 37) hx hb d_S_becomeWidened_112 (by decide) ?_
                  exact ih_37 (i + 1) (by omega) _ _ _ _ s0 sko skc sbo sbc u0 uko ukc ubo ubc v0 vko vkc vbo vbc hfr hP hD hS (lv_sub hl [0, 2, 3, 4] rfl)
                · have c7 : ¬ (n ≤ i + (n - i)) := fun z => c7 ((nI_leI (a := n) (b := (i + (n - i))) (by omega) (by omega)).mpr z)
                  exfalso; omega
              | succ dd ih_48 =>
                intro t e_t w H locs ls s0 sko skc sbo sbc u0 uko ukc ubo ubc v0 vko vkc vbo vbc hfr hP hD hS hl
                refine lv_iload hx hb d_S_becomeWidened_48 (lv_at hl 0 rfl) ?_
                refine lv_aload_n hx hb d_S_becomeWidened_50 rfl (lv_at hl 2 rfl) ?_
                refine gf_S_9 hF hT hK hP s0 rfl d_S_becomeWidened_51 ?_
                refine lv_icmp_ge (tgt := 109) hx hb d_S_becomeWidened_54 (by decide) (fun c8 => ?_) (fun c8 => ?_)
                · have c8 := (nI_leI (a := n) (b := (i + t)) (by omega) (by omega)).mp c8
                  exfalso; omega
                · have c8 : ¬ (n ≤ i + t) := fun z => c8 ((nI_leI (a := n) (b := (i + t)) (by omega) (by omega)).mpr z)
                  refine lv_aload_n hx hb d_S_becomeWidened_57 rfl (lv_at hl 3 rfl) ?_
                  refine gf_S_20 hF hT hK hP u0 rfl d_S_becomeWidened_58 ?_
                  refine lv_iload_n hx hb d_S_becomeWidened_61 rfl (lv_at hl 1 rfl) ?_
                  refine lv_iload hx hb d_S_becomeWidened_62 (lv_at hl 0 rfl) ?_
                  refine gw_cl0 (gc_S_73 (As := [.int (nI i), .int (nI (i + t))]) (rest := []) hF hT (c_T_at ⟨uko, ukc⟩ hn (by omega) (by omega)) ⟨(Nat.le_of_ble_eq_true rfl), (Nat.le_of_ble_eq_true rfl)⟩ rfl rfl hK hN hP hD uko rfl hl.1 rfl (Nat.le_of_ble_eq_true rfl) d_S_becomeWidened_64 ⟨(Nat.le_of_ble_eq_true rfl), (Nat.le_of_ble_eq_true rfl)⟩) hD hS hA (fun r9 H locs e_r9 hP hD hS => ?_)
                  subst e_r9
                  refine lv_lstore (lv' := [(5, .long (K2 (i * n + (i + t)))), (4, .int (nI (i + t))), (3, .int (nI i)), (0, .ref (a 0)), (1, .ref (b 0)), (2, .ref (d 0))]) hx hb d_S_becomeWidened_67 hl (by decide) rfl (fun ls hl => ?_)
                  refine lv_aload_n hx hb d_S_becomeWidened_69 rfl (lv_at hl 3 rfl) ?_
                  refine gf_S_20 hF hT hK hP s0 rfl d_S_becomeWidened_70 ?_
                  refine lv_iload_n hx hb d_S_becomeWidened_73 rfl (lv_at hl 2 rfl) ?_
                  refine lv_iload hx hb d_S_becomeWidened_74 (lv_at hl 1 rfl) ?_
                  refine lv_aload_n hx hb d_S_becomeWidened_76 rfl (lv_at hl 5 rfl) ?_
                  refine gf_S_24 hF hT hK hP v0 rfl d_S_becomeWidened_77 ?_
                  refine lv_iload_n hx hb d_S_becomeWidened_80 rfl (lv_at hl 2 rfl) ?_
                  refine lv_iload hx hb d_S_becomeWidened_81 (lv_at hl 1 rfl) ?_
                  refine gw_cl0 (gc_S_73 (As := [.int (nI i), .int (nI (i + t))]) (rest := [.int (nI (i + t)), .int (nI i), .ref (a 1)]) hF hT (c_T_at ⟨vbo, vbc⟩ hn (by omega) (by omega)) ⟨(Nat.le_of_ble_eq_true rfl), (Nat.le_of_ble_eq_true rfl)⟩ rfl rfl hK hN hP hD vbo rfl hl.1 rfl (Nat.le_of_ble_eq_true rfl) d_S_becomeWidened_83 ⟨(Nat.le_of_ble_eq_true rfl), (Nat.le_of_ble_eq_true rfl)⟩) hD hS hA (fun r10 H locs e_r10 hP hD hS => ?_)
                  subst e_r10
                  refine lv_lload hx hb d_S_becomeWidened_86 (lv_at hl 0 rfl) ?_
                  refine gx_lgt (tgt := 97) hx hb d_S_becomeWidened_88 d_S_becomeWidened_89 (by decide) (fun c11 => ?_) (fun c11 => ?_)
                  · refine lv_ldc2 (v := lr_E) hx hb hown (hts _ (hT _ wm_2_143)) d_S_becomeWidened_97 ?_
                    refine gw_cv (gc_S_79 (As := [.int (nI i), .int (nI (i + t)), .long lr_E]) (rest := []) hF hT (c_T_store ⟨sko, skc⟩ hn (by omega) (by omega)) ⟨(Nat.le_of_ble_eq_true rfl), (Nat.le_of_ble_eq_true rfl)⟩ rfl rfl hK hN hP hD sko rfl hl.1 rfl (Nat.le_of_ble_eq_true rfl) d_S_becomeWidened_100 ⟨(Nat.le_of_ble_eq_true rfl), (Nat.le_of_ble_eq_true rfl)⟩) hD hS hA (fun w H locs hw hP hD hS => ?_)
                    obtain ⟨⟨sko, skc⟩, hf⟩ := hw
                    have s0 := hf.at s0 (by omega)
                    have sbo := hf.at sbo (by omega)
                    have sbc := hf.at sbc (by omega)
                    have u0 := hf.at u0 (by omega)
                    have uko := hf.at uko (by omega)
                    have ukc := hf.at ukc (by omega)
                    have ubo := hf.at ubo (by omega)
                    have ubc := hf.at ubc (by omega)
                    have v0 := hf.at v0 (by omega)
                    have vko := hf.at vko (by omega)
                    have vkc := hf.at vkc (by omega)
                    have vbo := hf.at vbo (by omega)
                    have vbc := hf.at vbc (by omega)
                    have hfr := hfr.in hf (by omega) (by omega)
                    refine lv_iinc (v := nI (i + t + 1)) (lv' := [(4, .int (nI (i + t + 1))), (5, .long (K2 (i * n + (i + t)))), (3, .int (nI i)), (0, .ref (a 0)), (1, .ref (b 0)), (2, .ref (d 0))]) hx hb d_S_becomeWidened_103 hl (k := 1) rfl (gx_inc _) (by decide) rfl (fun ls hl => ?_)
                    refine lv_goto (tgt := 48) hx hb d_S_becomeWidened_106 (by decide) ?_
                    have eB12 : lr_symI (lr_gW K2 B3 n) n i (t + 1) (lr_symO (lr_gW K2 B3 n) n i (lr_all K n)) = lr_store (lr_symI (lr_gW K2 B3 n) n i t (lr_symO (lr_gW K2 B3 n) n i (lr_all K n))) n i (i + t) lr_E := by show lr_store _ n i (i + t) (ite _ _ _) = _; rw [if_pos c11]; rfl
                    rw [← eB12] at skc
                    exact ih_48 (t + 1) (by omega) _ _ _ _ s0 sko skc sbo sbc u0 uko ukc ubo ubc v0 vko vkc vbo vbc hfr hP hD hS (lv_sub hl [0, 2, 3, 4, 5] rfl)
                  · refine lv_lload hx hb d_S_becomeWidened_92 (lv_at hl 0 rfl) ?_
                    refine lv_goto (tgt := 100) hx hb d_S_becomeWidened_94 (by decide) ?_
                    refine gw_cv (gc_S_79 (As := [.int (nI i), .int (nI (i + t)), .long (K2 (i * n + (i + t)))]) (rest := []) hF hT (c_T_store ⟨sko, skc⟩ hn (by omega) (by omega)) ⟨(Nat.le_of_ble_eq_true rfl), (Nat.le_of_ble_eq_true rfl)⟩ rfl rfl hK hN hP hD sko rfl hl.1 rfl (Nat.le_of_ble_eq_true rfl) d_S_becomeWidened_100 ⟨(Nat.le_of_ble_eq_true rfl), (Nat.le_of_ble_eq_true rfl)⟩) hD hS hA (fun w H locs hw hP hD hS => ?_)
                    obtain ⟨⟨sko, skc⟩, hf⟩ := hw
                    have s0 := hf.at s0 (by omega)
                    have sbo := hf.at sbo (by omega)
                    have sbc := hf.at sbc (by omega)
                    have u0 := hf.at u0 (by omega)
                    have uko := hf.at uko (by omega)
                    have ukc := hf.at ukc (by omega)
                    have ubo := hf.at ubo (by omega)
                    have ubc := hf.at ubc (by omega)
                    have v0 := hf.at v0 (by omega)
                    have vko := hf.at vko (by omega)
                    have vkc := hf.at vkc (by omega)
                    have vbo := hf.at vbo (by omega)
                    have vbc := hf.at vbc (by omega)
                    have hfr := hfr.in hf (by omega) (by omega)
                    refine lv_iinc (v := nI (i + t + 1)) (lv' := [(4, .int (nI (i + t + 1))), (5, .long (K2 (i * n + (i + t)))), (3, .int (nI i)), (0, .ref (a 0)), (1, .ref (b 0)), (2, .ref (d 0))]) hx hb d_S_becomeWidened_103 hl (k := 1) rfl (gx_inc _) (by decide) rfl (fun ls hl => ?_)
                    refine lv_goto (tgt := 48) hx hb d_S_becomeWidened_106 (by decide) ?_
                    have eB13 : lr_symI (lr_gW K2 B3 n) n i (t + 1) (lr_symO (lr_gW K2 B3 n) n i (lr_all K n)) = lr_store (lr_symI (lr_gW K2 B3 n) n i t (lr_symO (lr_gW K2 B3 n) n i (lr_all K n))) n i (i + t) (K2 (i * n + (i + t))) := by show lr_store _ n i (i + t) (ite _ _ _) = _; rw [if_neg c11]; rfl
                    rw [← eB13] at skc
                    exact ih_48 (t + 1) (by omega) _ _ _ _ s0 sko skc sbo sbc u0 uko ukc ubo ubc v0 vko vkc vbo vbc hfr hP hD hS (lv_sub hl [0, 2, 3, 4, 5] rfl)
            exact lp_48 (n - i) 0 (by omega) _ _ _ _ s0 sko skc sbo sbc u0 uko ukc ubo ubc v0 vko vkc vbo vbc hfr hP hD hS (lv_sub hl [0, 1, 2, 3, 4] rfl)
      exact lp_37 n 0 (by omega) _ _ _ _ s0 sko skc sbo sbc u0 uko ukc ubo ubc v0 vko vkc vbo vbc hfr hP hD hS (lv_sub hl [0, 1, 2, 3] rfl)
    · refine lv_aload_n hx hb d_S_becomeWidened_14 rfl (lv_at hl 0 rfl) ?_
      refine lv_aload_n hx hb d_S_becomeWidened_15 rfl (lv_at hl 1 rfl) ?_
      refine gf_S_31 hF hT hK hP u0 rfl d_S_becomeWidened_16 ?_
      refine lv_if_eq (tgt := 26) hx hb d_S_becomeWidened_19 (by decide) (fun c14 => ?_) (fun c14 => ?_)
      · refine lv_aload_n hx hb d_S_becomeWidened_26 rfl (lv_at hl 1 rfl) ?_
        refine gw_cv (gc_S_85 (As := [.ref (b 0)]) (rest := []) hF hT (c_S_becomeLike ⟨s0, ⟨sko, skc⟩, ⟨sbo, sbc⟩⟩ hn he ⟨u0, ⟨uko, ukc⟩, ⟨ubo, ubc⟩⟩ hE2 hj2) ⟨(Nat.le_of_ble_eq_true rfl), (Nat.le_of_ble_eq_true rfl)⟩ rfl rfl hK hN hP hD s0 rfl hl.1 rfl (Nat.le_of_ble_eq_true rfl) d_S_becomeWidened_27 ⟨(Nat.le_of_ble_eq_true rfl), (Nat.le_of_ble_eq_true rfl)⟩) hD hS hA (fun w H locs hw hP hD hS => ?_)
        obtain ⟨⟨s0, ⟨sko, skc⟩, ⟨sbo, sbc⟩⟩, hf⟩ := hw
        have u0 := hf.at u0 (by omega)
        have uko := hf.at uko (by omega)
        have ukc := hf.at ukc (by omega)
        have ubo := hf.at ubo (by omega)
        have ubc := hf.at ubc (by omega)
        have v0 := hf.at v0 (by omega)
        have vko := hf.at vko (by omega)
        have vkc := hf.at vkc (by omega)
        have vbo := hf.at vbo (by omega)
        have vbc := hf.at vbc (by omega)
        have hfr := hfr.in hf (by omega) (by omega)
        exact gw_vret hx hb hr hlocks hK hP hD hS (Nat.le_of_ble_eq_true rfl) (Nat.le_of_ble_eq_true rfl) d_S_becomeWidened_30 ⟨⟨_, _, _, Or.inr (Or.inl ⟨c1, c3, rfl, rfl, rfl⟩), ⟨s0, ⟨sko, skc⟩, ⟨sbo, sbc⟩⟩⟩, hfr⟩
      · exact absurd ‹E2 = 0› ‹¬ E2 = 0›

set_option maxHeartbeats 4000000 in
set_option maxRecDepth 100000 in
theorem c_S_becomeNarrowed {l : Launch} {D : va_G} {cJ cI cZ cS : ClassId} {ws : va_W} {sz : Nat} {j n : Nat} {a : Nat → Nat} {K B : Nat → Int64} {E : Int32} (hs : shAt cJ ws j a n K B E) (hn : n ≤ 10) (he : n % 2 = 0) {j2 : Nat} {b : Nat → Nat} {K2 B2 : Nat → Int64} {E2 : Int32} (hs2 : shAt cJ ws j2 b n K2 B2 E2) (hE2 : E2 = 0 ∨ E2 = 1) (hj2 : j2 + 5 ≤ j ∨ j + 5 ≤ j2) {j3 : Nat} {d : Nat → Nat} {K3 B3 : Nat → Int64} {E3 : Int32} (hs3 : shAt cJ ws j3 d n K3 B3 E3) (hE3 : E3 = 0 ∨ E3 = 1) (hj3 : j3 + 5 ≤ j ∨ j + 5 ≤ j3) : Met l y_S_becomeNarrowed w_S_becomeNarrowed ({ frames := 6, cells := 0, slots := 0, locals := 111 } : Room) (gw_Pc D classes (gT cJ cI cZ cS) [.ref (a 0), .ref (b 0), .ref (d 0)] ws sz) (va_Qv (fun w => (∃ K1 B1 E1, lr_narO K B n K2 B2 E2 B3 E3 K1 B1 E1 ∧ shAt cJ w j a n K1 B1 E1) ∧ gF j (j + 5) ws w) (gw_B D classes (gT cJ cI cZ cS) ws sz) (va_A ws sz)) 0 0 (va_A ws sz) := by
  refine gw_head (by decide) (Nat.le_of_ble_eq_true rfl) (fun p e s m below meth c hsz hx hb hr hlocks hml hown hnm hts hK hN hP hD hS hA ls hl => ?_)
  have hown : s.vm.findClass R_S = some m.cls := hown
  have hT : ∀ w ∈ wG, w ∈ Cond.code y_S_becomeNarrowed b_S_becomeNarrowed 6 none :: wG := gd_t _
  have hF : CallFix p m c b_S_becomeNarrowed 6 s ([.ref (a 0), .ref (b 0), .ref (d 0)] : List Value).toArray (Cond.code y_S_becomeNarrowed b_S_becomeNarrowed 6 none :: wG) R_S := ⟨hx, hb, hml, hown, hts⟩
  have hl : lv_has ls 6 [(0, .ref (a 0)), (1, .ref (b 0)), (2, .ref (d 0))] := hl
  obtain ⟨s0, ⟨sko, skc⟩, ⟨sbo, sbc⟩⟩ := hs
  obtain ⟨u0, ⟨uko, ukc⟩, ⟨ubo, ubc⟩⟩ := hs2
  obtain ⟨v0, ⟨vko, vkc⟩, ⟨vbo, vbc⟩⟩ := hs3
  have hfr : gF j (j + 5) ws ws := gF.rf
  refine lv_aload_n hx hb d_S_becomeNarrowed_0 rfl (lv_at hl 1 rfl) ?_
  refine gf_S_31 hF hT hK hP u0 rfl d_S_becomeNarrowed_1 ?_
  refine lv_if_ne (tgt := 14) hx hb d_S_becomeNarrowed_4 (by decide) (fun c1 => ?_) (fun c1 => ?_)
  · refine lv_aload_n hx hb d_S_becomeNarrowed_14 rfl (lv_at hl 0 rfl) ?_
    refine gw_cv (gc_S_51 (As := []) (rest := []) hF hT (c_S_becomeEmpty ⟨s0, ⟨sko, skc⟩, ⟨sbo, sbc⟩⟩ hn he) ⟨(Nat.le_of_ble_eq_true rfl), (Nat.le_of_ble_eq_true rfl)⟩ rfl rfl hK hN hP hD s0 rfl hl.1 rfl (Nat.le_of_ble_eq_true rfl) d_S_becomeNarrowed_15 ⟨(Nat.le_of_ble_eq_true rfl), (Nat.le_of_ble_eq_true rfl)⟩) hD hS hA (fun w H locs hw hP hD hS => ?_)
    obtain ⟨⟨s0, ⟨sko, skc⟩, ⟨sbo, sbc⟩⟩, hf⟩ := hw
    have u0 := hf.at u0 (by omega)
    have uko := hf.at uko (by omega)
    have ukc := hf.at ukc (by omega)
    have ubo := hf.at ubo (by omega)
    have ubc := hf.at ubc (by omega)
    have v0 := hf.at v0 (by omega)
    have vko := hf.at vko (by omega)
    have vkc := hf.at vkc (by omega)
    have vbo := hf.at vbo (by omega)
    have vbc := hf.at vbc (by omega)
    have hfr := hfr.in hf (by omega) (by omega)
    exact gw_vret hx hb hr hlocks hK hP hD hS (Nat.le_of_ble_eq_true rfl) (Nat.le_of_ble_eq_true rfl) d_S_becomeNarrowed_18 ⟨⟨_, _, _, Or.inl ⟨Or.inl c1, rfl, rfl, rfl⟩, ⟨s0, ⟨sko, skc⟩, ⟨sbo, sbc⟩⟩⟩, hfr⟩
  · refine lv_aload_n hx hb d_S_becomeNarrowed_7 rfl (lv_at hl 2 rfl) ?_
    refine gf_S_31 hF hT hK hP v0 rfl d_S_becomeNarrowed_8 ?_
    refine lv_if_eq (tgt := 19) hx hb d_S_becomeNarrowed_11 (by decide) (fun c2 => ?_) (fun c2 => ?_)
    · refine lv_aload_n hx hb d_S_becomeNarrowed_19 rfl (lv_at hl 0 rfl) ?_
      refine gw_cv (gc_S_38 (As := []) (rest := []) hF hT (c_S_becomeAll ⟨s0, ⟨sko, skc⟩, ⟨sbo, sbc⟩⟩ hn he) ⟨(Nat.le_of_ble_eq_true rfl), (Nat.le_of_ble_eq_true rfl)⟩ rfl rfl hK hN hP hD s0 rfl hl.1 rfl (Nat.le_of_ble_eq_true rfl) d_S_becomeNarrowed_20 ⟨(Nat.le_of_ble_eq_true rfl), (Nat.le_of_ble_eq_true rfl)⟩) hD hS hA (fun w H locs hw hP hD hS => ?_)
      obtain ⟨⟨s0, ⟨sko, skc⟩, ⟨sbo, sbc⟩⟩, hf⟩ := hw
      have u0 := hf.at u0 (by omega)
      have uko := hf.at uko (by omega)
      have ukc := hf.at ukc (by omega)
      have ubo := hf.at ubo (by omega)
      have ubc := hf.at ubc (by omega)
      have v0 := hf.at v0 (by omega)
      have vko := hf.at vko (by omega)
      have vkc := hf.at vkc (by omega)
      have vbo := hf.at vbo (by omega)
      have vbc := hf.at vbc (by omega)
      have hfr := hfr.in hf (by omega) (by omega)
      refine lv_iconst (v := nI 0) hx hb d_S_becomeNarrowed_23 (by decide) ?_
      refine lv_istore_n (lv' := [(3, .int (nI 0)), (0, .ref (a 0)), (1, .ref (b 0)), (2, .ref (d 0))]) hx hb d_S_becomeNarrowed_24 rfl hl (by decide) rfl (fun ls hl => ?_)
      have lp_25 : ∀ (dd i : Nat), i + dd = n → ∀ (w : va_W) (H : Heap) (locs : List Loc) (ls : Array Slot), w[j]? = some (a 0, .inr (1, [.int (nI n), .ref (a 1), .ref (a 3), .int (nI 0)])) → w[j + 1]? = some (a 1, .inr (0, [.int (nI n), .ref (a 2)])) → w[j + 1 + 1]? = some (a 2, .inl (cJ, n * n, .inr (.inl (lr_symO (lr_gN K2 B2 B3 n) n i (lr_all K n))))) → w[j + 3]? = some (a 3, .inr (0, [.int (nI n), .ref (a 4)])) → w[j + 3 + 1]? = some (a 4, .inl (cJ, n * n, .inr (.inl (lr_allB B n)))) → w[j2]? = some (b 0, .inr (1, [.int (nI n), .ref (b 1), .ref (b 3), .int E2])) → w[j2 + 1]? = some (b 1, .inr (0, [.int (nI n), .ref (b 2)])) → w[j2 + 1 + 1]? = some (b 2, .inl (cJ, n * n, .inr (.inl K2))) → w[j2 + 3]? = some (b 3, .inr (0, [.int (nI n), .ref (b 4)])) → w[j2 + 3 + 1]? = some (b 4, .inl (cJ, n * n, .inr (.inl B2))) → w[j3]? = some (d 0, .inr (1, [.int (nI n), .ref (d 1), .ref (d 3), .int E3])) → w[j3 + 1]? = some (d 1, .inr (0, [.int (nI n), .ref (d 2)])) → w[j3 + 1 + 1]? = some (d 2, .inl (cJ, n * n, .inr (.inl K3))) → w[j3 + 3]? = some (d 3, .inr (0, [.int (nI n), .ref (d 4)])) → w[j3 + 3 + 1]? = some (d 4, .inl (cJ, n * n, .inr (.inl B3))) → gF j (j + 5) ws w → va_P D classes w H → va_D (va_A ws sz) w → va_S (va_A ws sz) s.heap H locs → lv_has ls 6 [(3, .int (nI i)), (0, .ref (a 0)), (1, .ref (b 0)), (2, .ref (d 0))] → W p l e ({ frames := 6, cells := 0, slots := 0, locals := 111 } : Room) s m ([.ref (a 0), .ref (b 0), .ref (d 0)] : List Value).toArray below meth c H locs 0 0 (MQ below (va_Qv (fun w => (∃ K1 B1 E1, lr_narO K B n K2 B2 E2 B3 E3 K1 B1 E1 ∧ shAt cJ w j a n K1 B1 E1) ∧ gF j (j + 5) ws w) (gw_B D classes (gT cJ cI cZ cS) ws sz) (va_A ws sz)) ([.ref (a 0), .ref (b 0), .ref (d 0)] : List Value).toArray s 0 0 (va_A ws sz)) (F0 m 25 ls []) := by
        intro dd
        induction dd with
        | zero =>
          intro i e_i w H locs ls s0 sko skc sbo sbc u0 uko ukc ubo ubc v0 vko vkc vbo vbc hfr hP hD hS hl
          have e0_i : n = i := by omega
          subst e0_i
          refine lv_iload_n hx hb d_S_becomeNarrowed_25 rfl (lv_at hl 0 rfl) ?_
          refine lv_aload_n hx hb d_S_becomeNarrowed_26 rfl (lv_at hl 1 rfl) ?_
          refine gf_S_9 hF hT hK hP s0 rfl d_S_becomeNarrowed_27 ?_
          refine lv_icmp_ge (tgt := 119) hx hb d_S_becomeNarrowed_30 (by decide) (fun c3 => ?_) (fun c3 => ?_)
          · have c3 := (nI_leI (a := n) (b := n) (by omega) (by omega)).mp c3
            refine lv_aload_n hx hb d_S_becomeNarrowed_119 rfl (lv_at hl 1 rfl) ?_
            refine gw_cv (gc_S_70 (As := []) (rest := []) hF hT (c_S_closeKeptRows ⟨s0, ⟨sko, skc⟩, ⟨sbo, sbc⟩⟩ hn he) ⟨(Nat.le_of_ble_eq_true rfl), (Nat.le_of_ble_eq_true rfl)⟩ rfl rfl hK hN hP hD s0 rfl hl.1 rfl (Nat.le_of_ble_eq_true rfl) d_S_becomeNarrowed_120 ⟨(Nat.le_of_ble_eq_true rfl), (Nat.le_of_ble_eq_true rfl)⟩) hD hS hA (fun w H locs hw hP hD hS => ?_)
            obtain ⟨⟨K4, B4, E4, o4, ⟨s0, ⟨sko, skc⟩, ⟨sbo, sbc⟩⟩⟩, hf⟩ := hw
            have u0 := hf.at u0 (by omega)
            have uko := hf.at uko (by omega)
            have ukc := hf.at ukc (by omega)
            have ubo := hf.at ubo (by omega)
            have ubc := hf.at ubc (by omega)
            have v0 := hf.at v0 (by omega)
            have vko := hf.at vko (by omega)
            have vkc := hf.at vkc (by omega)
            have vbo := hf.at vbo (by omega)
            have vbc := hf.at vbc (by omega)
            have hfr := hfr.in hf (by omega) (by omega)
            exact gw_vret hx hb hr hlocks hK hP hD hS (Nat.le_of_ble_eq_true rfl) (Nat.le_of_ble_eq_true rfl) d_S_becomeNarrowed_123 ⟨⟨_, _, _, Or.inr ⟨c1, c2, o4⟩, ⟨s0, ⟨sko, skc⟩, ⟨sbo, sbc⟩⟩⟩, hfr⟩
          · have c3 : ¬ (n ≤ n) := fun z => c3 ((nI_leI (a := n) (b := n) (by omega) (by omega)).mpr z)
            exfalso; omega
        | succ dd ih_25 =>
          intro i e_i w H locs ls s0 sko skc sbo sbc u0 uko ukc ubo ubc v0 vko vkc vbo vbc hfr hP hD hS hl
          refine lv_iload_n hx hb d_S_becomeNarrowed_25 rfl (lv_at hl 0 rfl) ?_
          refine lv_aload_n hx hb d_S_becomeNarrowed_26 rfl (lv_at hl 1 rfl) ?_
          refine gf_S_9 hF hT hK hP s0 rfl d_S_becomeNarrowed_27 ?_
          refine lv_icmp_ge (tgt := 119) hx hb d_S_becomeNarrowed_30 (by decide) (fun c5 => ?_) (fun c5 => ?_)
          · have c5 := (nI_leI (a := n) (b := i) (by omega) (by omega)).mp c5
            exfalso; omega
          · have c5 : ¬ (n ≤ i) := fun z => c5 ((nI_leI (a := n) (b := i) (by omega) (by omega)).mpr z)
            refine lv_iload_n hx hb d_S_becomeNarrowed_33 rfl (lv_at hl 0 rfl) ?_
            refine lv_istore (lv' := [(4, .int (nI i)), (3, .int (nI i)), (0, .ref (a 0)), (1, .ref (b 0)), (2, .ref (d 0))]) hx hb d_S_becomeNarrowed_34 hl (by decide) rfl (fun ls hl => ?_)
            have lp_36 : ∀ (dd t : Nat), t + dd = (n - i) → ∀ (w : va_W) (H : Heap) (locs : List Loc) (ls : Array Slot), w[j]? = some (a 0, .inr (1, [.int (nI n), .ref (a 1), .ref (a 3), .int (nI 0)])) → w[j + 1]? = some (a 1, .inr (0, [.int (nI n), .ref (a 2)])) → w[j + 1 + 1]? = some (a 2, .inl (cJ, n * n, .inr (.inl (lr_symI (lr_gN K2 B2 B3 n) n i t (lr_symO (lr_gN K2 B2 B3 n) n i (lr_all K n)))))) → w[j + 3]? = some (a 3, .inr (0, [.int (nI n), .ref (a 4)])) → w[j + 3 + 1]? = some (a 4, .inl (cJ, n * n, .inr (.inl (lr_allB B n)))) → w[j2]? = some (b 0, .inr (1, [.int (nI n), .ref (b 1), .ref (b 3), .int E2])) → w[j2 + 1]? = some (b 1, .inr (0, [.int (nI n), .ref (b 2)])) → w[j2 + 1 + 1]? = some (b 2, .inl (cJ, n * n, .inr (.inl K2))) → w[j2 + 3]? = some (b 3, .inr (0, [.int (nI n), .ref (b 4)])) → w[j2 + 3 + 1]? = some (b 4, .inl (cJ, n * n, .inr (.inl B2))) → w[j3]? = some (d 0, .inr (1, [.int (nI n), .ref (d 1), .ref (d 3), .int E3])) → w[j3 + 1]? = some (d 1, .inr (0, [.int (nI n), .ref (d 2)])) → w[j3 + 1 + 1]? = some (d 2, .inl (cJ, n * n, .inr (.inl K3))) → w[j3 + 3]? = some (d 3, .inr (0, [.int (nI n), .ref (d 4)])) → w[j3 + 3 + 1]? = some (d 4, .inl (cJ, n * n, .inr (.inl B3))) → gF j (j + 5) ws w → va_P D classes w H → va_D (va_A ws sz) w → va_S (va_A ws sz) s.heap H locs → lv_has ls 6 [(4, .int (nI (i + t))), (3, .int (nI i)), (0, .ref (a 0)), (1, .ref (b 0)), (2, .ref (d 0))] → W p l e ({ frames := 6, cells := 0, slots := 0, locals := 111 } : Room) s m ([.ref (a 0), .ref (b 0), .ref (d 0)] : List Value).toArray below meth c H locs 0 0 (MQ below (va_Qv (fun w => (∃ K1 B1 E1, lr_narO K B n K2 B2 E2 B3 E3 K1 B1 E1 ∧ shAt cJ w j a n K1 B1 E1) ∧ gF j (j + 5) ws w) (gw_B D classes (gT cJ cI cZ cS) ws sz) (va_A ws sz)) ([.ref (a 0), .ref (b 0), .ref (d 0)] : List Value).toArray s 0 0 (va_A ws sz)) (F0 m 36 ls []) := by
              intro dd
              induction dd with
              | zero =>
                intro t e_t w H locs ls s0 sko skc sbo sbc u0 uko ukc ubo ubc v0 vko vkc vbo vbc hfr hP hD hS hl
                have e0_t : (n - i) = t := by omega
                subst e0_t
                refine lv_iload hx hb d_S_becomeNarrowed_36 (lv_at hl 0 rfl) ?_
                refine lv_aload_n hx hb d_S_becomeNarrowed_38 rfl (lv_at hl 2 rfl) ?_
                refine gf_S_9 hF hT hK hP s0 rfl d_S_becomeNarrowed_39 ?_
                refine lv_icmp_ge (tgt := 113) hx hb d_S_becomeNarrowed_42 (by decide) (fun c6 => ?_) (fun c6 => ?_)
                · have c6 := (nI_leI (a := n) (b := (i + (n - i))) (by omega) (by omega)).mp c6
                  refine lv_iinc (v := nI (i + 1)) (lv' := [(3, .int (nI (i + 1))), (4, .int (nI (i + (n - i)))), (0, .ref (a 0)), (1, .ref (b 0)), (2, .ref (d 0))]) hx hb d_S_becomeNarrowed_113 hl (k := 1) rfl (gx_inc _) (by decide) rfl (fun ls hl => ?_)
                  refine lv_goto (tgt := 25) hx hb d_S_becomeNarrowed_116 (by decide) ?_
                  exact ih_25 (i + 1) (by omega) _ _ _ _ s0 sko skc sbo sbc u0 uko ukc ubo ubc v0 vko vkc vbo vbc hfr hP hD hS (lv_sub hl [0, 2, 3, 4] rfl)
                · have c6 : ¬ (n ≤ i + (n - i)) := fun z => c6 ((nI_leI (a := n) (b := (i + (n - i))) (by omega) (by omega)).mpr z)
                  exfalso; omega
              | succ dd ih_36 =>
                intro t e_t w H locs ls s0 sko skc sbo sbc u0 uko ukc ubo ubc v0 vko vkc vbo vbc hfr hP hD hS hl
                refine lv_iload hx hb d_S_becomeNarrowed_36 (lv_at hl 0 rfl) ?_
                refine lv_aload_n hx hb d_S_becomeNarrowed_38 rfl (lv_at hl 2 rfl) ?_
                refine gf_S_9 hF hT hK hP s0 rfl d_S_becomeNarrowed_39 ?_
                refine lv_icmp_ge (tgt := 113) hx hb d_S_becomeNarrowed_42 (by decide) (fun c7 => ?_) (fun c7 => ?_)
                · have c7 := (nI_leI (a := n) (b := (i + t)) (by omega) (by omega)).mp c7
                  exfalso; omega
                · have c7 : ¬ (n ≤ i + t) := fun z => c7 ((nI_leI (a := n) (b := (i + t)) (by omega) (by omega)).mpr z)
                  refine lv_aload_n hx hb d_S_becomeNarrowed_45 rfl (lv_at hl 3 rfl) ?_
                  refine gf_S_24 hF hT hK hP u0 rfl d_S_becomeNarrowed_46 ?_
                  refine lv_iload_n hx hb d_S_becomeNarrowed_49 rfl (lv_at hl 1 rfl) ?_
                  refine lv_iload hx hb d_S_becomeNarrowed_50 (lv_at hl 0 rfl) ?_
                  refine gw_cl0 (gc_S_73 (As := [.int (nI i), .int (nI (i + t))]) (rest := []) hF hT (c_T_at ⟨ubo, ubc⟩ hn (by omega) (by omega)) ⟨(Nat.le_of_ble_eq_true rfl), (Nat.le_of_ble_eq_true rfl)⟩ rfl rfl hK hN hP hD ubo rfl hl.1 rfl (Nat.le_of_ble_eq_true rfl) d_S_becomeNarrowed_52 ⟨(Nat.le_of_ble_eq_true rfl), (Nat.le_of_ble_eq_true rfl)⟩) hD hS hA (fun r8 H locs e_r8 hP hD hS => ?_)
                  subst e_r8
                  refine lv_ldc2 (v := lr_E) hx hb hown (hts _ (hT _ wm_2_143)) d_S_becomeNarrowed_55 ?_
                  refine gx_lne (tgt := 66) hx hb d_S_becomeNarrowed_58 d_S_becomeNarrowed_59 (by decide) (fun c9 => ?_) (fun c9 => ?_)
                  · refine lv_iconst (v := nI 0) hx hb d_S_becomeNarrowed_66 (by decide) ?_
                    refine lv_istore (lv' := [(5, .int (nI 0)), (4, .int (nI (i + t))), (3, .int (nI i)), (0, .ref (a 0)), (1, .ref (b 0)), (2, .ref (d 0))]) hx hb d_S_becomeNarrowed_67 hl (by decide) rfl (fun ls hl => ?_)
                    refine lv_aload_n hx hb d_S_becomeNarrowed_69 rfl (lv_at hl 3 rfl) ?_
                    refine gf_S_20 hF hT hK hP s0 rfl d_S_becomeNarrowed_70 ?_
                    refine lv_iload_n hx hb d_S_becomeNarrowed_73 rfl (lv_at hl 2 rfl) ?_
                    refine lv_iload hx hb d_S_becomeNarrowed_74 (lv_at hl 1 rfl) ?_
                    refine lv_iload hx hb d_S_becomeNarrowed_76 (lv_at hl 0 rfl) ?_
                    refine lv_if_eq (tgt := 94) hx hb d_S_becomeNarrowed_78 (by decide) (fun c10 => ?_) (fun c10 => ?_)
                    · have c10 := (nI_eq (a := 0) (b := 0) (by omega) (by omega)).mp c10
                      refine lv_aload_n hx hb d_S_becomeNarrowed_94 rfl (lv_at hl 4 rfl) ?_
                      refine gf_S_20 hF hT hK hP u0 rfl d_S_becomeNarrowed_95 ?_
                      refine lv_iload_n hx hb d_S_becomeNarrowed_98 rfl (lv_at hl 2 rfl) ?_
                      refine lv_iload hx hb d_S_becomeNarrowed_99 (lv_at hl 1 rfl) ?_
                      refine gw_cl0 (gc_S_73 (As := [.int (nI i), .int (nI (i + t))]) (rest := [.int (nI (i + t)), .int (nI i), .ref (a 1)]) hF hT (c_T_at ⟨uko, ukc⟩ hn (by omega) (by omega)) ⟨(Nat.le_of_ble_eq_true rfl), (Nat.le_of_ble_eq_true rfl)⟩ rfl rfl hK hN hP hD uko rfl hl.1 rfl (Nat.le_of_ble_eq_true rfl) d_S_becomeNarrowed_101 ⟨(Nat.le_of_ble_eq_true rfl), (Nat.le_of_ble_eq_true rfl)⟩) hD hS hA (fun r11 H locs e_r11 hP hD hS => ?_)
                      subst e_r11
                      refine gw_cv (gc_S_79 (As := [.int (nI i), .int (nI (i + t)), .long (K2 (i * n + (i + t)))]) (rest := []) hF hT (c_T_store ⟨sko, skc⟩ hn (by omega) (by omega)) ⟨(Nat.le_of_ble_eq_true rfl), (Nat.le_of_ble_eq_true rfl)⟩ rfl rfl hK hN hP hD sko rfl hl.1 rfl (Nat.le_of_ble_eq_true rfl) d_S_becomeNarrowed_104 ⟨(Nat.le_of_ble_eq_true rfl), (Nat.le_of_ble_eq_true rfl)⟩) hD hS hA (fun w H locs hw hP hD hS => ?_)
                      obtain ⟨⟨sko, skc⟩, hf⟩ := hw
                      have s0 := hf.at s0 (by omega)
                      have sbo := hf.at sbo (by omega)
                      have sbc := hf.at sbc (by omega)
                      have u0 := hf.at u0 (by omega)
                      have uko := hf.at uko (by omega)
                      have ukc := hf.at ukc (by omega)
                      have ubo := hf.at ubo (by omega)
                      have ubc := hf.at ubc (by omega)
                      have v0 := hf.at v0 (by omega)
                      have vko := hf.at vko (by omega)
                      have vkc := hf.at vkc (by omega)
                      have vbo := hf.at vbo (by omega)
                      have vbc := hf.at vbc (by omega)
                      have hfr := hfr.in hf (by omega) (by omega)
                      refine lv_iinc (v := nI (i + t + 1)) (lv' := [(4, .int (nI (i + t + 1))), (5, .int (nI 0)), (3, .int (nI i)), (0, .ref (a 0)), (1, .ref (b 0)), (2, .ref (d 0))]) hx hb d_S_becomeNarrowed_107 hl (k := 1) rfl (gx_inc _) (by decide) rfl (fun ls hl => ?_)
                      refine lv_goto (tgt := 36) hx hb d_S_becomeNarrowed_110 (by decide) ?_
                      have eB12 : lr_symI (lr_gN K2 B2 B3 n) n i (t + 1) (lr_symO (lr_gN K2 B2 B3 n) n i (lr_all K n)) = lr_store (lr_symI (lr_gN K2 B2 B3 n) n i t (lr_symO (lr_gN K2 B2 B3 n) n i (lr_all K n))) n i (i + t) (K2 (i * n + (i + t))) := by show lr_store _ n i (i + t) (ite _ _ _) = _; rw [if_neg c9]; rfl
                      rw [← eB12] at skc
                      exact ih_36 (t + 1) (by omega) _ _ _ _ s0 sko skc sbo sbc u0 uko ukc ubo ubc v0 vko vkc vbo vbc hfr hP hD hS (lv_sub hl [0, 2, 3, 4, 5] rfl)
                    · have c10 : ¬ (0 = 0) := fun z => c10 ((nI_eq (a := 0) (b := 0) (by omega) (by omega)).mpr z)
                      exact absurd rfl (by assumption)
                  · refine lv_iconst (v := nI 1) hx hb d_S_becomeNarrowed_62 (by decide) ?_
                    refine lv_goto (tgt := 67) hx hb d_S_becomeNarrowed_63 (by decide) ?_
                    refine lv_istore (lv' := [(5, .int (nI 1)), (4, .int (nI (i + t))), (3, .int (nI i)), (0, .ref (a 0)), (1, .ref (b 0)), (2, .ref (d 0))]) hx hb d_S_becomeNarrowed_67 hl (by decide) rfl (fun ls hl => ?_)
                    refine lv_aload_n hx hb d_S_becomeNarrowed_69 rfl (lv_at hl 3 rfl) ?_
                    refine gf_S_20 hF hT hK hP s0 rfl d_S_becomeNarrowed_70 ?_
                    refine lv_iload_n hx hb d_S_becomeNarrowed_73 rfl (lv_at hl 2 rfl) ?_
                    refine lv_iload hx hb d_S_becomeNarrowed_74 (lv_at hl 1 rfl) ?_
                    refine lv_iload hx hb d_S_becomeNarrowed_76 (lv_at hl 0 rfl) ?_
                    refine lv_if_eq (tgt := 94) hx hb d_S_becomeNarrowed_78 (by decide) (fun c13 => ?_) (fun c13 => ?_)
                    · have c13 := (nI_eq (a := 1) (b := 0) (by omega) (by omega)).mp c13
                      exact absurd (by assumption) (by decide)
                    · have c13 : ¬ (1 = 0) := fun z => c13 ((nI_eq (a := 1) (b := 0) (by omega) (by omega)).mpr z)
                      refine lv_aload_n hx hb d_S_becomeNarrowed_81 rfl (lv_at hl 5 rfl) ?_
                      refine gf_S_24 hF hT hK hP v0 rfl d_S_becomeNarrowed_82 ?_
                      refine lv_iload_n hx hb d_S_becomeNarrowed_85 rfl (lv_at hl 2 rfl) ?_
                      refine lv_iload hx hb d_S_becomeNarrowed_86 (lv_at hl 1 rfl) ?_
                      refine gw_cl0 (gc_S_73 (As := [.int (nI i), .int (nI (i + t))]) (rest := [.int (nI (i + t)), .int (nI i), .ref (a 1)]) hF hT (c_T_at ⟨vbo, vbc⟩ hn (by omega) (by omega)) ⟨(Nat.le_of_ble_eq_true rfl), (Nat.le_of_ble_eq_true rfl)⟩ rfl rfl hK hN hP hD vbo rfl hl.1 rfl (Nat.le_of_ble_eq_true rfl) d_S_becomeNarrowed_88 ⟨(Nat.le_of_ble_eq_true rfl), (Nat.le_of_ble_eq_true rfl)⟩) hD hS hA (fun r14 H locs e_r14 hP hD hS => ?_)
                      subst e_r14
                      refine lv_goto (tgt := 104) hx hb d_S_becomeNarrowed_91 (by decide) ?_
                      refine gw_cv (gc_S_79 (As := [.int (nI i), .int (nI (i + t)), .long (B3 (i * n + (i + t)))]) (rest := []) hF hT (c_T_store ⟨sko, skc⟩ hn (by omega) (by omega)) ⟨(Nat.le_of_ble_eq_true rfl), (Nat.le_of_ble_eq_true rfl)⟩ rfl rfl hK hN hP hD sko rfl hl.1 rfl (Nat.le_of_ble_eq_true rfl) d_S_becomeNarrowed_104 ⟨(Nat.le_of_ble_eq_true rfl), (Nat.le_of_ble_eq_true rfl)⟩) hD hS hA (fun w H locs hw hP hD hS => ?_)
                      obtain ⟨⟨sko, skc⟩, hf⟩ := hw
                      have s0 := hf.at s0 (by omega)
                      have sbo := hf.at sbo (by omega)
                      have sbc := hf.at sbc (by omega)
                      have u0 := hf.at u0 (by omega)
                      have uko := hf.at uko (by omega)
                      have ukc := hf.at ukc (by omega)
                      have ubo := hf.at ubo (by omega)
                      have ubc := hf.at ubc (by omega)
                      have v0 := hf.at v0 (by omega)
                      have vko := hf.at vko (by omega)
                      have vkc := hf.at vkc (by omega)
                      have vbo := hf.at vbo (by omega)
                      have vbc := hf.at vbc (by omega)
                      have hfr := hfr.in hf (by omega) (by omega)
                      refine lv_iinc (v := nI (i + t + 1)) (lv' := [(4, .int (nI (i + t + 1))), (5, .int (nI 1)), (3, .int (nI i)), (0, .ref (a 0)), (1, .ref (b 0)), (2, .ref (d 0))]) hx hb d_S_becomeNarrowed_107 hl (k := 1) rfl (gx_inc _) (by decide) rfl (fun ls hl => ?_)
                      refine lv_goto (tgt := 36) hx hb d_S_becomeNarrowed_110 (by decide) ?_
                      have eB15 : lr_symI (lr_gN K2 B2 B3 n) n i (t + 1) (lr_symO (lr_gN K2 B2 B3 n) n i (lr_all K n)) = lr_store (lr_symI (lr_gN K2 B2 B3 n) n i t (lr_symO (lr_gN K2 B2 B3 n) n i (lr_all K n))) n i (i + t) (B3 (i * n + (i + t))) := by show lr_store _ n i (i + t) (ite _ _ _) = _; rw [if_pos c9]; rfl
                      rw [← eB15] at skc
                      exact ih_36 (t + 1) (by omega) _ _ _ _ s0 sko skc sbo sbc u0 uko ukc ubo ubc v0 vko vkc vbo vbc hfr hP hD hS (lv_sub hl [0, 2, 3, 4, 5] rfl)
            exact lp_36 (n - i) 0 (by omega) _ _ _ _ s0 sko skc sbo sbc u0 uko ukc ubo ubc v0 vko vkc vbo vbc hfr hP hD hS (lv_sub hl [0, 1, 2, 3, 4] rfl)
      exact lp_25 n 0 (by omega) _ _ _ _ s0 sko skc sbo sbc u0 uko ukc ubo ubc v0 vko vkc vbo vbc hfr hP hD hS (lv_sub hl [0, 1, 2, 3] rfl)
    · refine lv_aload_n hx hb d_S_becomeNarrowed_14 rfl (lv_at hl 0 rfl) ?_
      refine gw_cv (gc_S_51 (As := []) (rest := []) hF hT (c_S_becomeEmpty ⟨s0, ⟨sko, skc⟩, ⟨sbo, sbc⟩⟩ hn he) ⟨(Nat.le_of_ble_eq_true rfl), (Nat.le_of_ble_eq_true rfl)⟩ rfl rfl hK hN hP hD s0 rfl hl.1 rfl (Nat.le_of_ble_eq_true rfl) d_S_becomeNarrowed_15 ⟨(Nat.le_of_ble_eq_true rfl), (Nat.le_of_ble_eq_true rfl)⟩) hD hS hA (fun w H locs hw hP hD hS => ?_)
      obtain ⟨⟨s0, ⟨sko, skc⟩, ⟨sbo, sbc⟩⟩, hf⟩ := hw
      have u0 := hf.at u0 (by omega)
      have uko := hf.at uko (by omega)
      have ukc := hf.at ukc (by omega)
      have ubo := hf.at ubo (by omega)
      have ubc := hf.at ubc (by omega)
      have v0 := hf.at v0 (by omega)
      have vko := hf.at vko (by omega)
      have vkc := hf.at vkc (by omega)
      have vbo := hf.at vbo (by omega)
      have vbc := hf.at vbc (by omega)
      have hfr := hfr.in hf (by omega) (by omega)
      exact gw_vret hx hb hr hlocks hK hP hD hS (Nat.le_of_ble_eq_true rfl) (Nat.le_of_ble_eq_true rfl) d_S_becomeNarrowed_18 ⟨⟨_, _, _, Or.inl ⟨Or.inr c2, rfl, rfl, rfl⟩, ⟨s0, ⟨sko, skc⟩, ⟨sbo, sbc⟩⟩⟩, hfr⟩

set_option maxHeartbeats 4000000 in
set_option maxRecDepth 100000 in
theorem c_X_termAt {l : Launch} {D : va_G} {cJ cI cZ cS : ClassId} {ws : va_W} {sz : Nat} {q : Nat} (hq : q < 1000) : Met l y_X_termAt w_X_termAt ({ frames := 1, cells := 0, slots := 0, locals := 0 } : Room) (gw_Pc D classes (gT cJ cI cZ cS) [.int (nI q)] ws sz) (va_Qi (fun r w => (r = lr_term q) ∧ w = ws) (gw_B D classes (gT cJ cI cZ cS) ws sz) (va_A ws sz)) 0 0 (va_A ws sz) := by
  refine gw_head (by decide) (Nat.le_of_ble_eq_true rfl) (fun p e s m below meth c hsz hx hb hr hlocks hml hown hnm hts hK hN hP hD hS hA ls hl => ?_)
  have hown : s.vm.findClass R_X = some m.cls := hown
  have hT : ∀ w ∈ wG, w ∈ Cond.code y_X_termAt b_X_termAt 2 (some .int) :: wG := gd_t _
  have hF : CallFix p m c b_X_termAt 2 s ([.int (nI q)] : List Value).toArray (Cond.code y_X_termAt b_X_termAt 2 (some .int) :: wG) R_X := ⟨hx, hb, hml, hown, hts⟩
  have hl : lv_has ls 2 [(0, .int (nI q))] := hl
  refine lv_iload_n hx hb d_X_termAt_0 rfl (lv_at hl 0 rfl) ?_
  refine lv_iconst (v := nI 2) hx hb d_X_termAt_1 (by decide) ?_
  refine lv_idiv hx hb d_X_termAt_2 (by decide) ?_
  refine gx_i (y := nI (q / 2)) (pk_div (by omega) (by omega) (by omega)) ?_
  refine lv_iconst (v := nI 1) hx hb d_X_termAt_3 (by decide) ?_
  refine lv_iadd hx hb d_X_termAt_4 ?_
  refine gx_i (y := nI ((q / 2) + 1)) (nI_add _ _) ?_
  refine lv_istore_n (lv' := [(1, .int (nI ((q / 2) + 1))), (0, .int (nI q))]) hx hb d_X_termAt_5 rfl hl (by decide) rfl (fun ls hl => ?_)
  refine lv_iload_n hx hb d_X_termAt_6 rfl (lv_at hl 1 rfl) ?_
  refine lv_iconst (v := nI 2) hx hb d_X_termAt_7 (by decide) ?_
  refine lv_irem hx hb d_X_termAt_8 (by decide) ?_
  refine gx_i (y := nI (q % 2)) (pk_rem (by omega) (by omega) (by omega)) ?_
  refine lv_if_ne (tgt := 16) hx hb d_X_termAt_9 (by decide) (fun c1 => ?_) (fun c1 => ?_)
  · have c1 : ¬ (q % 2 = 0) := fun z => c1 ((nI_eq (a := (q % 2)) (b := 0) (by omega) (by omega)).mpr z)
    refine lv_iload_n hx hb d_X_termAt_16 rfl (lv_at hl 0 rfl) ?_
    refine lv_ineg hx hb d_X_termAt_17 ?_
    exact gw_iret hx hb hr hlocks hK hP hD hS (Nat.le_of_ble_eq_true rfl) (Nat.le_of_ble_eq_true rfl) d_X_termAt_18 ⟨(if_neg c1).symm, rfl⟩
  · have c1 := (nI_eq (a := (q % 2)) (b := 0) (by omega) (by omega)).mp c1
    refine lv_iload_n hx hb d_X_termAt_12 rfl (lv_at hl 0 rfl) ?_
    refine lv_goto (tgt := 18) hx hb d_X_termAt_13 (by decide) ?_
    exact gw_iret hx hb hr hlocks hK hP hD hS (Nat.le_of_ble_eq_true rfl) (Nat.le_of_ble_eq_true rfl) d_X_termAt_18 ⟨(if_pos c1).symm, rfl⟩

set_option maxHeartbeats 4000000 in
set_option maxRecDepth 100000 in
theorem c_S_sourceOf {l : Launch} {D : va_G} {cJ cI cZ cS : ClassId} {ws : va_W} {sz : Nat} {q : Nat} {x y : Int32} (hq : q < 1000) : Met l y_S_sourceOf w_S_sourceOf ({ frames := 2, cells := 0, slots := 0, locals := 21 } : Room) (gw_Pc D classes (gT cJ cI cZ cS) [.int (nI q), .int x, .int y] ws sz) (va_Qi (fun r w => (r = lr_src q x y) ∧ w = ws) (gw_B D classes (gT cJ cI cZ cS) ws sz) (va_A ws sz)) 0 0 (va_A ws sz) := by
  refine gw_head (by decide) (Nat.le_of_ble_eq_true rfl) (fun p e s m below meth c hsz hx hb hr hlocks hml hown hnm hts hK hN hP hD hS hA ls hl => ?_)
  have hown : s.vm.findClass R_S = some m.cls := hown
  have hT : ∀ w ∈ wG, w ∈ Cond.code y_S_sourceOf b_S_sourceOf 4 (some .int) :: wG := gd_t _
  have hF : CallFix p m c b_S_sourceOf 4 s ([.int (nI q), .int x, .int y] : List Value).toArray (Cond.code y_S_sourceOf b_S_sourceOf 4 (some .int) :: wG) R_S := ⟨hx, hb, hml, hown, hts⟩
  have hl : lv_has ls 4 [(0, .int (nI q)), (1, .int x), (2, .int y)] := hl
  refine lv_iload_n hx hb d_S_sourceOf_0 rfl (lv_at hl 0 rfl) ?_
  refine gw_ci0 (gc_S_108 (As := [.int (nI q)]) (rest := []) hF hT (c_X_termAt (q := q) (by omega)) ⟨(Nat.le_of_ble_eq_true rfl), (Nat.le_of_ble_eq_true rfl)⟩ rfl rfl hK hN hP hD rfl hl.1 rfl (Nat.le_of_ble_eq_true rfl) d_S_sourceOf_1 ⟨(Nat.le_of_ble_eq_true rfl), (Nat.le_of_ble_eq_true rfl)⟩) hD hS hA (fun r1 H locs e_r1 hP hD hS => ?_)
  subst e_r1
  refine lv_istore_n (lv' := [(3, .int (lr_term q)), (0, .int (nI q)), (1, .int x), (2, .int y)]) hx hb d_S_sourceOf_4 rfl hl (by decide) rfl (fun ls hl => ?_)
  refine lv_iload_n hx hb d_S_sourceOf_5 rfl (lv_at hl 0 rfl) ?_
  refine lv_iload_n hx hb d_S_sourceOf_6 rfl (lv_at hl 2 rfl) ?_
  refine lv_icmp_ne (tgt := 12) hx hb d_S_sourceOf_7 (by decide) (fun c2 => ?_) (fun c2 => ?_)
  · refine lv_iload_n hx hb d_S_sourceOf_12 rfl (lv_at hl 0 rfl) ?_
    refine lv_iload_n hx hb d_S_sourceOf_13 rfl (lv_at hl 2 rfl) ?_
    refine lv_ineg hx hb d_S_sourceOf_14 ?_
    refine lv_icmp_ne (tgt := 23) hx hb d_S_sourceOf_15 (by decide) (fun c3 => ?_) (fun c3 => ?_)
    · refine lv_iload_n hx hb d_S_sourceOf_23 rfl (lv_at hl 0 rfl) ?_
      exact gw_iret hx hb hr hlocks hK hP hD hS (Nat.le_of_ble_eq_true rfl) (Nat.le_of_ble_eq_true rfl) d_S_sourceOf_24 ⟨((if_neg c2).trans (if_neg c3)).symm, rfl⟩
    · refine lv_iload_n hx hb d_S_sourceOf_18 rfl (lv_at hl 3 rfl) ?_
      refine lv_ineg hx hb d_S_sourceOf_19 ?_
      refine lv_goto (tgt := 24) hx hb d_S_sourceOf_20 (by decide) ?_
      exact gw_iret hx hb hr hlocks hK hP hD hS (Nat.le_of_ble_eq_true rfl) (Nat.le_of_ble_eq_true rfl) d_S_sourceOf_24 ⟨((if_neg c2).trans (if_pos c3)).symm, rfl⟩
  · refine lv_iload_n hx hb d_S_sourceOf_10 rfl (lv_at hl 3 rfl) ?_
    exact gw_iret hx hb hr hlocks hK hP hD hS (Nat.le_of_ble_eq_true rfl) (Nat.le_of_ble_eq_true rfl) d_S_sourceOf_11 ⟨(if_pos c2).symm, rfl⟩

set_option maxHeartbeats 4000000 in
set_option maxRecDepth 100000 in
theorem c_S_addedTo {l : Launch} {D : va_G} {cJ cI cZ cS : ClassId} {ws : va_W} {sz : Nat} {q : Nat} {x : Int32} {v : Int64} (hq : q < 1000) : Met l y_S_addedTo w_S_addedTo ({ frames := 2, cells := 0, slots := 0, locals := 21 } : Room) (gw_Pc D classes (gT cJ cI cZ cS) [.int (nI q), .int x, .long v] ws sz) (va_Ql (fun r w => (r = lr_add q x v) ∧ w = ws) (gw_B D classes (gT cJ cI cZ cS) ws sz) (va_A ws sz)) 0 0 (va_A ws sz) := by
  refine gw_head (by decide) (Nat.le_of_ble_eq_true rfl) (fun p e s m below meth c hsz hx hb hr hlocks hml hown hnm hts hK hN hP hD hS hA ls hl => ?_)
  have hown : s.vm.findClass R_S = some m.cls := hown
  have hT : ∀ w ∈ wG, w ∈ Cond.code y_S_addedTo b_S_addedTo 5 (some .long) :: wG := gd_t _
  have hF : CallFix p m c b_S_addedTo 5 s ([.int (nI q), .int x, .long v] : List Value).toArray (Cond.code y_S_addedTo b_S_addedTo 5 (some .long) :: wG) R_S := ⟨hx, hb, hml, hown, hts⟩
  have hl : lv_has ls 5 [(0, .int (nI q)), (1, .int x), (2, .long v)] := hl
  refine lv_iload_n hx hb d_S_addedTo_0 rfl (lv_at hl 0 rfl) ?_
  refine gw_ci0 (gc_S_108 (As := [.int (nI q)]) (rest := []) hF hT (c_X_termAt (q := q) (by omega)) ⟨(Nat.le_of_ble_eq_true rfl), (Nat.le_of_ble_eq_true rfl)⟩ rfl rfl hK hN hP hD rfl hl.1 rfl (Nat.le_of_ble_eq_true rfl) d_S_addedTo_1 ⟨(Nat.le_of_ble_eq_true rfl), (Nat.le_of_ble_eq_true rfl)⟩) hD hS hA (fun r1 H locs e_r1 hP hD hS => ?_)
  subst e_r1
  refine lv_istore (lv' := [(4, .int (lr_term q)), (0, .int (nI q)), (1, .int x), (2, .long v)]) hx hb d_S_addedTo_4 hl (by decide) rfl (fun ls hl => ?_)
  refine lv_iload hx hb d_S_addedTo_6 (lv_at hl 0 rfl) ?_
  refine lv_iload_n hx hb d_S_addedTo_8 rfl (lv_at hl 2 rfl) ?_
  refine lv_icmp_ne (tgt := 14) hx hb d_S_addedTo_9 (by decide) (fun c2 => ?_) (fun c2 => ?_)
  · refine lv_iload hx hb d_S_addedTo_14 (lv_at hl 0 rfl) ?_
    refine lv_iload_n hx hb d_S_addedTo_16 rfl (lv_at hl 2 rfl) ?_
    refine lv_ineg hx hb d_S_addedTo_17 ?_
    refine lv_icmp_ne (tgt := 26) hx hb d_S_addedTo_18 (by decide) (fun c3 => ?_) (fun c3 => ?_)
    · refine lv_lconst (v := 0) hx hb d_S_addedTo_26 rfl ?_
      exact gw_lret hx hb hr hlocks hK hP hD hS (Nat.le_of_ble_eq_true rfl) (Nat.le_of_ble_eq_true rfl) d_S_addedTo_27 ⟨((if_neg c2).trans (if_neg c3)).symm, rfl⟩
    · refine lv_lload_n hx hb d_S_addedTo_21 rfl (lv_at hl 3 rfl) ?_
      refine lv_lneg hx hb d_S_addedTo_22 ?_
      refine lv_goto (tgt := 27) hx hb d_S_addedTo_23 (by decide) ?_
      exact gw_lret hx hb hr hlocks hK hP hD hS (Nat.le_of_ble_eq_true rfl) (Nat.le_of_ble_eq_true rfl) d_S_addedTo_27 ⟨((if_neg c2).trans (if_pos c3)).symm, rfl⟩
  · refine lv_lload_n hx hb d_S_addedTo_12 rfl (lv_at hl 3 rfl) ?_
    exact gw_lret hx hb hr hlocks hK hP hD hS (Nat.le_of_ble_eq_true rfl) (Nat.le_of_ble_eq_true rfl) d_S_addedTo_13 ⟨(if_pos c2).symm, rfl⟩

set_option maxHeartbeats 4000000 in
set_option maxRecDepth 100000 in
theorem c_S_becomeAssigned {l : Launch} {D : va_G} {cJ cI cZ cS : ClassId} {ws : va_W} {sz : Nat} {j n : Nat} {a : Nat → Nat} {K B : Nat → Int64} {E : Int32} (hs : shAt cJ ws j a n K B E) (hn : n ≤ 10) (he : n % 2 = 0) {j2 : Nat} {b : Nat → Nat} {K2 B2 : Nat → Int64} {E2 : Int32} (hs2 : shAt cJ ws j2 b n K2 B2 E2) (hE2 : E2 = 0 ∨ E2 = 1) (hj2 : j2 + 5 ≤ j ∨ j + 5 ≤ j2) {x y : Int32} {v : Int64} (hy0 : lr_tm y n) : Met l y_S_becomeAssigned w_S_becomeAssigned ({ frames := 5, cells := 0, slots := 0, locals := 87 } : Room) (gw_Pc D classes (gT cJ cI cZ cS) [.ref (a 0), .ref (b 0), .int x, .int y, .long v] ws sz) (va_Qv (fun w => (∃ K1 B1 E1, lr_asgO K B n B2 E2 x y v K1 B1 E1 ∧ shAt cJ w j a n K1 B1 E1) ∧ gF j (j + 5) ws w) (gw_B D classes (gT cJ cI cZ cS) ws sz) (va_A ws sz)) 0 0 (va_A ws sz) := by
  refine gw_head (by decide) (Nat.le_of_ble_eq_true rfl) (fun p e s m below meth c hsz hx hb hr hlocks hml hown hnm hts hK hN hP hD hS hA ls hl => ?_)
  have hown : s.vm.findClass R_S = some m.cls := hown
  have hT : ∀ w ∈ wG, w ∈ Cond.code y_S_becomeAssigned b_S_becomeAssigned 10 none :: wG := gd_t _
  have hF : CallFix p m c b_S_becomeAssigned 10 s ([.ref (a 0), .ref (b 0), .int x, .int y, .long v] : List Value).toArray (Cond.code y_S_becomeAssigned b_S_becomeAssigned 10 none :: wG) R_S := ⟨hx, hb, hml, hown, hts⟩
  have hl : lv_has ls 10 [(0, .ref (a 0)), (1, .ref (b 0)), (2, .int x), (3, .int y), (4, .long v)] := hl
  obtain ⟨s0, ⟨sko, skc⟩, ⟨sbo, sbc⟩⟩ := hs
  obtain ⟨u0, ⟨uko, ukc⟩, ⟨ubo, ubc⟩⟩ := hs2
  have hfr : gF j (j + 5) ws ws := gF.rf
  refine lv_aload_n hx hb d_S_becomeAssigned_0 rfl (lv_at hl 1 rfl) ?_
  refine gf_S_31 hF hT hK hP u0 rfl d_S_becomeAssigned_1 ?_
  refine lv_if_eq (tgt := 12) hx hb d_S_becomeAssigned_4 (by decide) (fun c1 => ?_) (fun c1 => ?_)
  · refine lv_aload_n hx hb d_S_becomeAssigned_12 rfl (lv_at hl 0 rfl) ?_
    refine gw_cv (gc_S_38 (As := []) (rest := []) hF hT (c_S_becomeAll ⟨s0, ⟨sko, skc⟩, ⟨sbo, sbc⟩⟩ hn he) ⟨(Nat.le_of_ble_eq_true rfl), (Nat.le_of_ble_eq_true rfl)⟩ rfl rfl hK hN hP hD s0 rfl hl.1 rfl (Nat.le_of_ble_eq_true rfl) d_S_becomeAssigned_13 ⟨(Nat.le_of_ble_eq_true rfl), (Nat.le_of_ble_eq_true rfl)⟩) hD hS hA (fun w H locs hw hP hD hS => ?_)
    obtain ⟨⟨s0, ⟨sko, skc⟩, ⟨sbo, sbc⟩⟩, hf⟩ := hw
    have u0 := hf.at u0 (by omega)
    have uko := hf.at uko (by omega)
    have ukc := hf.at ukc (by omega)
    have ubo := hf.at ubo (by omega)
    have ubc := hf.at ubc (by omega)
    have hfr := hfr.in hf (by omega) (by omega)
    refine lv_iconst (v := nI 0) hx hb d_S_becomeAssigned_16 (by decide) ?_
    refine lv_istore (lv' := [(6, .int (nI 0)), (0, .ref (a 0)), (1, .ref (b 0)), (2, .int x), (3, .int y), (4, .long v)]) hx hb d_S_becomeAssigned_17 hl (by decide) rfl (fun ls hl => ?_)
    have lp_19 : ∀ (dd i : Nat), i + dd = n → ∀ (w : va_W) (H : Heap) (locs : List Loc) (ls : Array Slot), w[j]? = some (a 0, .inr (1, [.int (nI n), .ref (a 1), .ref (a 3), .int (nI 0)])) → w[j + 1]? = some (a 1, .inr (0, [.int (nI n), .ref (a 2)])) → w[j + 1 + 1]? = some (a 2, .inl (cJ, n * n, .inr (.inl (lr_all K n)))) → w[j + 3]? = some (a 3, .inr (0, [.int (nI n), .ref (a 4)])) → w[j + 3 + 1]? = some (a 4, .inl (cJ, n * n, .inr (.inl (lr_symO (lr_gA B2 E2 n x y v) n i (lr_allB B n))))) → w[j2]? = some (b 0, .inr (1, [.int (nI n), .ref (b 1), .ref (b 3), .int E2])) → w[j2 + 1]? = some (b 1, .inr (0, [.int (nI n), .ref (b 2)])) → w[j2 + 1 + 1]? = some (b 2, .inl (cJ, n * n, .inr (.inl K2))) → w[j2 + 3]? = some (b 3, .inr (0, [.int (nI n), .ref (b 4)])) → w[j2 + 3 + 1]? = some (b 4, .inl (cJ, n * n, .inr (.inl B2))) → gF j (j + 5) ws w → va_P D classes w H → va_D (va_A ws sz) w → va_S (va_A ws sz) s.heap H locs → lv_has ls 10 [(6, .int (nI i)), (0, .ref (a 0)), (1, .ref (b 0)), (2, .int x), (3, .int y), (4, .long v)] → W p l e ({ frames := 5, cells := 0, slots := 0, locals := 87 } : Room) s m ([.ref (a 0), .ref (b 0), .int x, .int y, .long v] : List Value).toArray below meth c H locs 0 0 (MQ below (va_Qv (fun w => (∃ K1 B1 E1, lr_asgO K B n B2 E2 x y v K1 B1 E1 ∧ shAt cJ w j a n K1 B1 E1) ∧ gF j (j + 5) ws w) (gw_B D classes (gT cJ cI cZ cS) ws sz) (va_A ws sz)) ([.ref (a 0), .ref (b 0), .int x, .int y, .long v] : List Value).toArray s 0 0 (va_A ws sz)) (F0 m 19 ls []) := by
      intro dd
      induction dd with
      | zero =>
        intro i e_i w H locs ls s0 sko skc sbo sbc u0 uko ukc ubo ubc hfr hP hD hS hl
        have e0_i : n = i := by omega
        subst e0_i
        refine lv_iload hx hb d_S_becomeAssigned_19 (lv_at hl 0 rfl) ?_
        refine lv_aload_n hx hb d_S_becomeAssigned_21 rfl (lv_at hl 1 rfl) ?_
        refine gf_S_9 hF hT hK hP s0 rfl d_S_becomeAssigned_22 ?_
        refine lv_icmp_ge (tgt := 106) hx hb d_S_becomeAssigned_25 (by decide) (fun c2 => ?_) (fun c2 => ?_)
        · have c2 := (nI_leI (a := n) (b := n) (by omega) (by omega)).mp c2
          refine lv_aload_n hx hb d_S_becomeAssigned_106 rfl (lv_at hl 1 rfl) ?_
          refine gw_cv (gc_S_82 (As := []) (rest := []) hF hT (c_S_keepBounds ⟨s0, ⟨sko, skc⟩, ⟨sbo, sbc⟩⟩ hn he) ⟨(Nat.le_of_ble_eq_true rfl), (Nat.le_of_ble_eq_true rfl)⟩ rfl rfl hK hN hP hD s0 rfl hl.1 rfl (Nat.le_of_ble_eq_true rfl) d_S_becomeAssigned_107 ⟨(Nat.le_of_ble_eq_true rfl), (Nat.le_of_ble_eq_true rfl)⟩) hD hS hA (fun w H locs hw hP hD hS => ?_)
          obtain ⟨⟨K3, o3, ⟨s0, ⟨sko, skc⟩, ⟨sbo, sbc⟩⟩⟩, hf⟩ := hw
          have u0 := hf.at u0 (by omega)
          have uko := hf.at uko (by omega)
          have ukc := hf.at ukc (by omega)
          have ubo := hf.at ubo (by omega)
          have ubc := hf.at ubc (by omega)
          have hfr := hfr.in hf (by omega) (by omega)
          exact gw_vret hx hb hr hlocks hK hP hD hS (Nat.le_of_ble_eq_true rfl) (Nat.le_of_ble_eq_true rfl) d_S_becomeAssigned_110 ⟨⟨_, _, _, Or.inr ⟨c1, rfl, rfl, o3⟩, ⟨s0, ⟨sko, skc⟩, ⟨sbo, sbc⟩⟩⟩, hfr⟩
        · have c2 : ¬ (n ≤ n) := fun z => c2 ((nI_leI (a := n) (b := n) (by omega) (by omega)).mpr z)
          exfalso; omega
      | succ dd ih_19 =>
        intro i e_i w H locs ls s0 sko skc sbo sbc u0 uko ukc ubo ubc hfr hP hD hS hl
        refine lv_iload hx hb d_S_becomeAssigned_19 (lv_at hl 0 rfl) ?_
        refine lv_aload_n hx hb d_S_becomeAssigned_21 rfl (lv_at hl 1 rfl) ?_
        refine gf_S_9 hF hT hK hP s0 rfl d_S_becomeAssigned_22 ?_
        refine lv_icmp_ge (tgt := 106) hx hb d_S_becomeAssigned_25 (by decide) (fun c4 => ?_) (fun c4 => ?_)
        · have c4 := (nI_leI (a := n) (b := i) (by omega) (by omega)).mp c4
          exfalso; omega
        · have c4 : ¬ (n ≤ i) := fun z => c4 ((nI_leI (a := n) (b := i) (by omega) (by omega)).mpr z)
          refine lv_iload hx hb d_S_becomeAssigned_28 (lv_at hl 0 rfl) ?_
          refine lv_istore (lv' := [(7, .int (nI i)), (6, .int (nI i)), (0, .ref (a 0)), (1, .ref (b 0)), (2, .int x), (3, .int y), (4, .long v)]) hx hb d_S_becomeAssigned_30 hl (by decide) rfl (fun ls hl => ?_)
          have lp_32 : ∀ (dd t : Nat), t + dd = (n - i) → ∀ (w : va_W) (H : Heap) (locs : List Loc) (ls : Array Slot), w[j]? = some (a 0, .inr (1, [.int (nI n), .ref (a 1), .ref (a 3), .int (nI 0)])) → w[j + 1]? = some (a 1, .inr (0, [.int (nI n), .ref (a 2)])) → w[j + 1 + 1]? = some (a 2, .inl (cJ, n * n, .inr (.inl (lr_all K n)))) → w[j + 3]? = some (a 3, .inr (0, [.int (nI n), .ref (a 4)])) → w[j + 3 + 1]? = some (a 4, .inl (cJ, n * n, .inr (.inl (lr_symI (lr_gA B2 E2 n x y v) n i t (lr_symO (lr_gA B2 E2 n x y v) n i (lr_allB B n)))))) → w[j2]? = some (b 0, .inr (1, [.int (nI n), .ref (b 1), .ref (b 3), .int E2])) → w[j2 + 1]? = some (b 1, .inr (0, [.int (nI n), .ref (b 2)])) → w[j2 + 1 + 1]? = some (b 2, .inl (cJ, n * n, .inr (.inl K2))) → w[j2 + 3]? = some (b 3, .inr (0, [.int (nI n), .ref (b 4)])) → w[j2 + 3 + 1]? = some (b 4, .inl (cJ, n * n, .inr (.inl B2))) → gF j (j + 5) ws w → va_P D classes w H → va_D (va_A ws sz) w → va_S (va_A ws sz) s.heap H locs → lv_has ls 10 [(7, .int (nI (i + t))), (6, .int (nI i)), (0, .ref (a 0)), (1, .ref (b 0)), (2, .int x), (3, .int y), (4, .long v)] → W p l e ({ frames := 5, cells := 0, slots := 0, locals := 87 } : Room) s m ([.ref (a 0), .ref (b 0), .int x, .int y, .long v] : List Value).toArray below meth c H locs 0 0 (MQ below (va_Qv (fun w => (∃ K1 B1 E1, lr_asgO K B n B2 E2 x y v K1 B1 E1 ∧ shAt cJ w j a n K1 B1 E1) ∧ gF j (j + 5) ws w) (gw_B D classes (gT cJ cI cZ cS) ws sz) (va_A ws sz)) ([.ref (a 0), .ref (b 0), .int x, .int y, .long v] : List Value).toArray s 0 0 (va_A ws sz)) (F0 m 32 ls []) := by
            intro dd
            induction dd with
            | zero =>
              intro t e_t w H locs ls s0 sko skc sbo sbc u0 uko ukc ubo ubc hfr hP hD hS hl
              have e0_t : (n - i) = t := by omega
              subst e0_t
              refine lv_iload hx hb d_S_becomeAssigned_32 (lv_at hl 0 rfl) ?_
              refine lv_aload_n hx hb d_S_becomeAssigned_34 rfl (lv_at hl 2 rfl) ?_
              refine gf_S_9 hF hT hK hP s0 rfl d_S_becomeAssigned_35 ?_
              refine lv_icmp_ge (tgt := 100) hx hb d_S_becomeAssigned_38 (by decide) (fun c5 => ?_) (fun c5 => ?_)
              · have c5 := (nI_leI (a := n) (b := (i + (n - i))) (by omega) (by omega)).mp c5
                refine lv_iinc (v := nI (i + 1)) (lv' := [(6, .int (nI (i + 1))), (7, .int (nI (i + (n - i)))), (0, .ref (a 0)), (1, .ref (b 0)), (2, .int x), (3, .int y), (4, .long v)]) hx hb d_S_becomeAssigned_100 hl (k := 1) rfl (gx_inc _) (by decide) rfl (fun ls hl => ?_)
                refine lv_goto (tgt := 19) hx hb d_S_becomeAssigned_103 (by decide) ?_
                exact ih_19 (i + 1) (by omega) _ _ _ _ s0 sko skc sbo sbc u0 uko ukc ubo ubc hfr hP hD hS (lv_sub hl [0, 2, 3, 4, 5, 6] rfl)
              · have c5 : ¬ (n ≤ i + (n - i)) := fun z => c5 ((nI_leI (a := n) (b := (i + (n - i))) (by omega) (by omega)).mpr z)
                exfalso; omega
            | succ dd ih_32 =>
              intro t e_t w H locs ls s0 sko skc sbo sbc u0 uko ukc ubo ubc hfr hP hD hS hl
              refine lv_iload hx hb d_S_becomeAssigned_32 (lv_at hl 0 rfl) ?_
              refine lv_aload_n hx hb d_S_becomeAssigned_34 rfl (lv_at hl 2 rfl) ?_
              refine gf_S_9 hF hT hK hP s0 rfl d_S_becomeAssigned_35 ?_
              refine lv_icmp_ge (tgt := 100) hx hb d_S_becomeAssigned_38 (by decide) (fun c6 => ?_) (fun c6 => ?_)
              · have c6 := (nI_leI (a := n) (b := (i + t)) (by omega) (by omega)).mp c6
                exfalso; omega
              · have c6 : ¬ (n ≤ i + t) := fun z => c6 ((nI_leI (a := n) (b := (i + t)) (by omega) (by omega)).mpr z)
                refine lv_aload_n hx hb d_S_becomeAssigned_41 rfl (lv_at hl 3 rfl) ?_
                refine lv_iload hx hb d_S_becomeAssigned_42 (lv_at hl 1 rfl) ?_
                refine lv_iload_n hx hb d_S_becomeAssigned_44 rfl (lv_at hl 4 rfl) ?_
                refine lv_iload_n hx hb d_S_becomeAssigned_45 rfl (lv_at hl 5 rfl) ?_
                refine gw_ci0 (gc_S_94 (As := [.int (nI i), .int x, .int y]) (rest := [.ref (b 0)]) hF hT (c_S_sourceOf (q := i) (by omega)) ⟨(Nat.le_of_ble_eq_true rfl), (Nat.le_of_ble_eq_true rfl)⟩ rfl rfl hK hN hP hD rfl hl.1 rfl (Nat.le_of_ble_eq_true rfl) d_S_becomeAssigned_46 ⟨(Nat.le_of_ble_eq_true rfl), (Nat.le_of_ble_eq_true rfl)⟩) hD hS hA (fun r7 H locs e_r7 hP hD hS => ?_)
                subst e_r7
                refine lv_iload hx hb d_S_becomeAssigned_49 (lv_at hl 0 rfl) ?_
                refine lv_iload_n hx hb d_S_becomeAssigned_51 rfl (lv_at hl 4 rfl) ?_
                refine lv_iload_n hx hb d_S_becomeAssigned_52 rfl (lv_at hl 5 rfl) ?_
                refine gw_ci0 (gc_S_94 (As := [.int (nI (i + t)), .int x, .int y]) (rest := [.int (lr_src i x y), .ref (b 0)]) hF hT (c_S_sourceOf (q := i + t) (by omega)) ⟨(Nat.le_of_ble_eq_true rfl), (Nat.le_of_ble_eq_true rfl)⟩ rfl rfl hK hN hP hD rfl hl.1 rfl (Nat.le_of_ble_eq_true rfl) d_S_becomeAssigned_53 ⟨(Nat.le_of_ble_eq_true rfl), (Nat.le_of_ble_eq_true rfl)⟩) hD hS hA (fun r8 H locs e_r8 hP hD hS => ?_)
                subst e_r8
                refine gw_cl0 (gc_S_98 (As := [.int (lr_src i x y), .int (lr_src (i + t) x y)]) (rest := []) hF hT (c_S_greatest ⟨u0, ⟨uko, ukc⟩, ⟨ubo, ubc⟩⟩ hn he (lr_src_tm (by omega) hn he hy0) (lr_src_tm (by omega) hn he hy0)) ⟨(Nat.le_of_ble_eq_true rfl), (Nat.le_of_ble_eq_true rfl)⟩ rfl rfl hK hN hP hD u0 rfl hl.1 rfl (Nat.le_of_ble_eq_true rfl) d_S_becomeAssigned_56 ⟨(Nat.le_of_ble_eq_true rfl), (Nat.le_of_ble_eq_true rfl)⟩) hD hS hA (fun r9 H locs e_r9 hP hD hS => ?_)
                subst e_r9
                refine lv_lstore (lv' := [(8, .long (lr_gr B2 n E2 (lr_src i x y) (lr_src (i + t) x y))), (7, .int (nI (i + t))), (6, .int (nI i)), (0, .ref (a 0)), (1, .ref (b 0)), (2, .int x), (3, .int y), (4, .long v)]) hx hb d_S_becomeAssigned_59 hl (by decide) rfl (fun ls hl => ?_)
                refine lv_aload_n hx hb d_S_becomeAssigned_61 rfl (lv_at hl 3 rfl) ?_
                refine gf_S_24 hF hT hK hP s0 rfl d_S_becomeAssigned_62 ?_
                refine lv_iload hx hb d_S_becomeAssigned_65 (lv_at hl 2 rfl) ?_
                refine lv_iload hx hb d_S_becomeAssigned_67 (lv_at hl 1 rfl) ?_
                refine lv_lload hx hb d_S_becomeAssigned_69 (lv_at hl 0 rfl) ?_
                refine lv_iload hx hb d_S_becomeAssigned_71 (lv_at hl 2 rfl) ?_
                refine lv_iload_n hx hb d_S_becomeAssigned_73 rfl (lv_at hl 5 rfl) ?_
                refine lv_lload hx hb d_S_becomeAssigned_74 (lv_at hl 7 rfl) ?_
                refine gw_cl0 (gc_S_101 (As := [.int (nI i), .int x, .long v]) (rest := [.long (lr_gr B2 n E2 (lr_src i x y) (lr_src (i + t) x y)), .int (nI (i + t)), .int (nI i), .ref (a 3)]) hF hT (c_S_addedTo (q := i) (by omega)) ⟨(Nat.le_of_ble_eq_true rfl), (Nat.le_of_ble_eq_true rfl)⟩ rfl rfl hK hN hP hD rfl hl.1 rfl (Nat.le_of_ble_eq_true rfl) d_S_becomeAssigned_76 ⟨(Nat.le_of_ble_eq_true rfl), (Nat.le_of_ble_eq_true rfl)⟩) hD hS hA (fun r10 H locs e_r10 hP hD hS => ?_)
                subst e_r10
                refine lv_iload hx hb d_S_becomeAssigned_79 (lv_at hl 1 rfl) ?_
                refine lv_iload_n hx hb d_S_becomeAssigned_81 rfl (lv_at hl 5 rfl) ?_
                refine lv_lload hx hb d_S_becomeAssigned_82 (lv_at hl 7 rfl) ?_
                refine gw_cl0 (gc_S_101 (As := [.int (nI (i + t)), .int x, .long v]) (rest := [.long (lr_add i x v), .long (lr_gr B2 n E2 (lr_src i x y) (lr_src (i + t) x y)), .int (nI (i + t)), .int (nI i), .ref (a 3)]) hF hT (c_S_addedTo (q := i + t) (by omega)) ⟨(Nat.le_of_ble_eq_true rfl), (Nat.le_of_ble_eq_true rfl)⟩ rfl rfl hK hN hP hD rfl hl.1 rfl (Nat.le_of_ble_eq_true rfl) d_S_becomeAssigned_84 ⟨(Nat.le_of_ble_eq_true rfl), (Nat.le_of_ble_eq_true rfl)⟩) hD hS hA (fun r11 H locs e_r11 hP hD hS => ?_)
                subst e_r11
                refine lv_ladd hx hb d_S_becomeAssigned_87 ?_
                refine gw_cl0 (gc_S_105 (As := [.long (lr_gr B2 n E2 (lr_src i x y) (lr_src (i + t) x y)), .long ((lr_add i x v) + (lr_add (i + t) x v))]) (rest := [.int (nI (i + t)), .int (nI i), .ref (a 3)]) hF hT c_X_plus ⟨(Nat.le_of_ble_eq_true rfl), (Nat.le_of_ble_eq_true rfl)⟩ rfl rfl hK hN hP hD rfl hl.1 rfl (Nat.le_of_ble_eq_true rfl) d_S_becomeAssigned_88 ⟨(Nat.le_of_ble_eq_true rfl), (Nat.le_of_ble_eq_true rfl)⟩) hD hS hA (fun r12 H locs e_r12 hP hD hS => ?_)
                subst e_r12
                refine gw_cv (gc_S_79 (As := [.int (nI i), .int (nI (i + t)), .long (lr_plus (lr_gr B2 n E2 (lr_src i x y) (lr_src (i + t) x y)) ((lr_add i x v) + (lr_add (i + t) x v)))]) (rest := []) hF hT (c_T_store ⟨sbo, sbc⟩ hn (by omega) (by omega)) ⟨(Nat.le_of_ble_eq_true rfl), (Nat.le_of_ble_eq_true rfl)⟩ rfl rfl hK hN hP hD sbo rfl hl.1 rfl (Nat.le_of_ble_eq_true rfl) d_S_becomeAssigned_91 ⟨(Nat.le_of_ble_eq_true rfl), (Nat.le_of_ble_eq_true rfl)⟩) hD hS hA (fun w H locs hw hP hD hS => ?_)
                obtain ⟨⟨sbo, sbc⟩, hf⟩ := hw
                have s0 := hf.at s0 (by omega)
                have sko := hf.at sko (by omega)
                have skc := hf.at skc (by omega)
                have u0 := hf.at u0 (by omega)
                have uko := hf.at uko (by omega)
                have ukc := hf.at ukc (by omega)
                have ubo := hf.at ubo (by omega)
                have ubc := hf.at ubc (by omega)
                have hfr := hfr.in hf (by omega) (by omega)
                refine lv_iinc (v := nI (i + t + 1)) (lv' := [(7, .int (nI (i + t + 1))), (8, .long (lr_gr B2 n E2 (lr_src i x y) (lr_src (i + t) x y))), (6, .int (nI i)), (0, .ref (a 0)), (1, .ref (b 0)), (2, .int x), (3, .int y), (4, .long v)]) hx hb d_S_becomeAssigned_94 hl (k := 1) rfl (gx_inc _) (by decide) rfl (fun ls hl => ?_)
                refine lv_goto (tgt := 32) hx hb d_S_becomeAssigned_97 (by decide) ?_
                exact ih_32 (t + 1) (by omega) _ _ _ _ s0 sko skc sbo sbc u0 uko ukc ubo ubc hfr hP hD hS (lv_sub hl [0, 2, 3, 4, 5, 6, 7] rfl)
          exact lp_32 (n - i) 0 (by omega) _ _ _ _ s0 sko skc sbo sbc u0 uko ukc ubo ubc hfr hP hD hS (lv_sub hl [0, 1, 2, 3, 4, 5, 6] rfl)
    exact lp_19 n 0 (by omega) _ _ _ _ s0 sko skc sbo sbc u0 uko ukc ubo ubc hfr hP hD hS (lv_sub hl [0, 1, 2, 3, 4, 5] rfl)
  · refine lv_aload_n hx hb d_S_becomeAssigned_7 rfl (lv_at hl 0 rfl) ?_
    refine gw_cv (gc_S_51 (As := []) (rest := []) hF hT (c_S_becomeEmpty ⟨s0, ⟨sko, skc⟩, ⟨sbo, sbc⟩⟩ hn he) ⟨(Nat.le_of_ble_eq_true rfl), (Nat.le_of_ble_eq_true rfl)⟩ rfl rfl hK hN hP hD s0 rfl hl.1 rfl (Nat.le_of_ble_eq_true rfl) d_S_becomeAssigned_8 ⟨(Nat.le_of_ble_eq_true rfl), (Nat.le_of_ble_eq_true rfl)⟩) hD hS hA (fun w H locs hw hP hD hS => ?_)
    obtain ⟨⟨s0, ⟨sko, skc⟩, ⟨sbo, sbc⟩⟩, hf⟩ := hw
    have u0 := hf.at u0 (by omega)
    have uko := hf.at uko (by omega)
    have ukc := hf.at ukc (by omega)
    have ubo := hf.at ubo (by omega)
    have ubc := hf.at ubc (by omega)
    have hfr := hfr.in hf (by omega) (by omega)
    exact gw_vret hx hb hr hlocks hK hP hD hS (Nat.le_of_ble_eq_true rfl) (Nat.le_of_ble_eq_true rfl) d_S_becomeAssigned_11 ⟨⟨_, _, _, Or.inl ⟨c1, rfl, rfl, rfl⟩, ⟨s0, ⟨sko, skc⟩, ⟨sbo, sbc⟩⟩⟩, hfr⟩

set_option maxHeartbeats 4000000 in
set_option maxRecDepth 100000 in
theorem c_S_becomeFree {l : Launch} {D : va_G} {cJ cI cZ cS : ClassId} {ws : va_W} {sz : Nat} {j n : Nat} {a : Nat → Nat} {K B : Nat → Int64} {E : Int32} (hs : shAt cJ ws j a n K B E) (hn : n ≤ 10) (he : n % 2 = 0) {j2 : Nat} {b : Nat → Nat} {K2 B2 : Nat → Int64} {E2 : Int32} (hs2 : shAt cJ ws j2 b n K2 B2 E2) (hE2 : E2 = 0 ∨ E2 = 1) (hj2 : j2 + 5 ≤ j ∨ j + 5 ≤ j2) {x : Int32} (hx0 : lr_tm x n) (hz : ¬ x = 0) : Met l y_S_becomeFree w_S_becomeFree ({ frames := 3, cells := 0, slots := 0, locals := 72 } : Room) (gw_Pc D classes (gT cJ cI cZ cS) [.ref (a 0), .ref (b 0), .int x] ws sz) (va_Qv (fun w => (∃ K1 B1 E1, lr_freeO K B n K2 B2 E2 x K1 B1 E1 ∧ shAt cJ w j a n K1 B1 E1) ∧ gF j (j + 5) ws w) (gw_B D classes (gT cJ cI cZ cS) ws sz) (va_A ws sz)) 0 0 (va_A ws sz) := by
  refine gw_head (by decide) (Nat.le_of_ble_eq_true rfl) (fun p e s m below meth c hsz hx hb hr hlocks hml hown hnm hts hK hN hP hD hS hA ls hl => ?_)
  have hown : s.vm.findClass R_S = some m.cls := hown
  have hT : ∀ w ∈ wG, w ∈ Cond.code y_S_becomeFree b_S_becomeFree 4 none :: wG := gd_t _
  have hF : CallFix p m c b_S_becomeFree 4 s ([.ref (a 0), .ref (b 0), .int x] : List Value).toArray (Cond.code y_S_becomeFree b_S_becomeFree 4 none :: wG) R_S := ⟨hx, hb, hml, hown, hts⟩
  have hl : lv_has ls 4 [(0, .ref (a 0)), (1, .ref (b 0)), (2, .int x)] := hl
  obtain ⟨s0, ⟨sko, skc⟩, ⟨sbo, sbc⟩⟩ := hs
  obtain ⟨u0, ⟨uko, ukc⟩, ⟨ubo, ubc⟩⟩ := hs2
  have hx1 := lr_tm_neg he hx0
  have hz1 : ¬ -x = 0 := fun q => hz (by rw [← lr_negneg x, q]; decide)
  have hfr : gF j (j + 5) ws ws := gF.rf
  refine lv_aload_n hx hb d_S_becomeFree_0 rfl (lv_at hl 0 rfl) ?_
  refine lv_aload_n hx hb d_S_becomeFree_1 rfl (lv_at hl 1 rfl) ?_
  refine gw_cv (gc_S_85 (As := [.ref (b 0)]) (rest := []) hF hT (c_S_becomeLike ⟨s0, ⟨sko, skc⟩, ⟨sbo, sbc⟩⟩ hn he ⟨u0, ⟨uko, ukc⟩, ⟨ubo, ubc⟩⟩ hE2 hj2) ⟨(Nat.le_of_ble_eq_true rfl), (Nat.le_of_ble_eq_true rfl)⟩ rfl rfl hK hN hP hD s0 rfl hl.1 rfl (Nat.le_of_ble_eq_true rfl) d_S_becomeFree_2 ⟨(Nat.le_of_ble_eq_true rfl), (Nat.le_of_ble_eq_true rfl)⟩) hD hS hA (fun w H locs hw hP hD hS => ?_)
  obtain ⟨⟨s0, ⟨sko, skc⟩, ⟨sbo, sbc⟩⟩, hf⟩ := hw
  have u0 := hf.at u0 (by omega)
  have uko := hf.at uko (by omega)
  have ukc := hf.at ukc (by omega)
  have ubo := hf.at ubo (by omega)
  have ubc := hf.at ubc (by omega)
  have hfr := hfr.in hf (by omega) (by omega)
  refine lv_aload_n hx hb d_S_becomeFree_5 rfl (lv_at hl 0 rfl) ?_
  refine gf_S_31 hF hT hK hP s0 rfl d_S_becomeFree_6 ?_
  refine lv_if_eq (tgt := 13) hx hb d_S_becomeFree_9 (by decide) (fun c1 => ?_) (fun c1 => ?_)
  · refine lv_iconst (v := nI 0) hx hb d_S_becomeFree_13 (by decide) ?_
    refine lv_istore_n (lv' := [(3, .int (nI 0)), (0, .ref (a 0)), (1, .ref (b 0)), (2, .int x)]) hx hb d_S_becomeFree_14 rfl hl (by decide) rfl (fun ls hl => ?_)
    have lp_15 : ∀ (dd i : Nat), i + dd = n → ∀ (w : va_W) (H : Heap) (locs : List Loc) (ls : Array Slot), w[j]? = some (a 0, .inr (1, [.int (nI n), .ref (a 1), .ref (a 3), .int E2])) → w[j + 1]? = some (a 1, .inr (0, [.int (nI n), .ref (a 2)])) → w[j + 1 + 1]? = some (a 2, .inl (cJ, n * n, .inr (.inl (lr_copy K2 K (n * n))))) → w[j + 3]? = some (a 3, .inr (0, [.int (nI n), .ref (a 4)])) → w[j + 3 + 1]? = some (a 4, .inl (cJ, n * n, .inr (.inl (lr_free (lr_copy B2 B (n * n)) n x i)))) → w[j2]? = some (b 0, .inr (1, [.int (nI n), .ref (b 1), .ref (b 3), .int E2])) → w[j2 + 1]? = some (b 1, .inr (0, [.int (nI n), .ref (b 2)])) → w[j2 + 1 + 1]? = some (b 2, .inl (cJ, n * n, .inr (.inl K2))) → w[j2 + 3]? = some (b 3, .inr (0, [.int (nI n), .ref (b 4)])) → w[j2 + 3 + 1]? = some (b 4, .inl (cJ, n * n, .inr (.inl B2))) → gF j (j + 5) ws w → va_P D classes w H → va_D (va_A ws sz) w → va_S (va_A ws sz) s.heap H locs → lv_has ls 4 [(3, .int (nI i)), (0, .ref (a 0)), (1, .ref (b 0)), (2, .int x)] → W p l e ({ frames := 3, cells := 0, slots := 0, locals := 72 } : Room) s m ([.ref (a 0), .ref (b 0), .int x] : List Value).toArray below meth c H locs 0 0 (MQ below (va_Qv (fun w => (∃ K1 B1 E1, lr_freeO K B n K2 B2 E2 x K1 B1 E1 ∧ shAt cJ w j a n K1 B1 E1) ∧ gF j (j + 5) ws w) (gw_B D classes (gT cJ cI cZ cS) ws sz) (va_A ws sz)) ([.ref (a 0), .ref (b 0), .int x] : List Value).toArray s 0 0 (va_A ws sz)) (F0 m 15 ls []) := by
      intro dd
      induction dd with
      | zero =>
        intro i e_i w H locs ls s0 sko skc sbo sbc u0 uko ukc ubo ubc hfr hP hD hS hl
        have e0_i : n = i := by omega
        subst e0_i
        refine lv_iload_n hx hb d_S_becomeFree_15 rfl (lv_at hl 0 rfl) ?_
        refine lv_aload_n hx hb d_S_becomeFree_16 rfl (lv_at hl 1 rfl) ?_
        refine gf_S_9 hF hT hK hP s0 rfl d_S_becomeFree_17 ?_
        refine lv_icmp_ge (tgt := 60) hx hb d_S_becomeFree_20 (by decide) (fun c2 => ?_) (fun c2 => ?_)
        · have c2 := (nI_leI (a := n) (b := n) (by omega) (by omega)).mp c2
          refine lv_aload_n hx hb d_S_becomeFree_60 rfl (lv_at hl 1 rfl) ?_
          refine gf_S_24 hF hT hK hP s0 rfl d_S_becomeFree_61 ?_
          refine lv_lconst (v := 0) hx hb d_S_becomeFree_64 rfl ?_
          refine gw_cv (gc_S_27 (As := [.long (0 : Int64)]) (rest := []) hF hT (c_T_storeOpposites ⟨sbo, sbc⟩ hn he) ⟨(Nat.le_of_ble_eq_true rfl), (Nat.le_of_ble_eq_true rfl)⟩ rfl rfl hK hN hP hD sbo rfl hl.1 rfl (Nat.le_of_ble_eq_true rfl) d_S_becomeFree_65 ⟨(Nat.le_of_ble_eq_true rfl), (Nat.le_of_ble_eq_true rfl)⟩) hD hS hA (fun w H locs hw hP hD hS => ?_)
          obtain ⟨⟨sbo, sbc⟩, hf⟩ := hw
          have s0 := hf.at s0 (by omega)
          have sko := hf.at sko (by omega)
          have skc := hf.at skc (by omega)
          have u0 := hf.at u0 (by omega)
          have uko := hf.at uko (by omega)
          have ukc := hf.at ukc (by omega)
          have ubo := hf.at ubo (by omega)
          have ubc := hf.at ubc (by omega)
          have hfr := hfr.in hf (by omega) (by omega)
          refine lv_aload_n hx hb d_S_becomeFree_68 rfl (lv_at hl 1 rfl) ?_
          refine gw_cv (gc_S_82 (As := []) (rest := []) hF hT (c_S_keepBounds ⟨s0, ⟨sko, skc⟩, ⟨sbo, sbc⟩⟩ hn he) ⟨(Nat.le_of_ble_eq_true rfl), (Nat.le_of_ble_eq_true rfl)⟩ rfl rfl hK hN hP hD s0 rfl hl.1 rfl (Nat.le_of_ble_eq_true rfl) d_S_becomeFree_69 ⟨(Nat.le_of_ble_eq_true rfl), (Nat.le_of_ble_eq_true rfl)⟩) hD hS hA (fun w H locs hw hP hD hS => ?_)
          obtain ⟨⟨K3, o3, ⟨s0, ⟨sko, skc⟩, ⟨sbo, sbc⟩⟩⟩, hf⟩ := hw
          have u0 := hf.at u0 (by omega)
          have uko := hf.at uko (by omega)
          have ukc := hf.at ukc (by omega)
          have ubo := hf.at ubo (by omega)
          have ubc := hf.at ubc (by omega)
          have hfr := hfr.in hf (by omega) (by omega)
          exact gw_vret hx hb hr hlocks hK hP hD hS (Nat.le_of_ble_eq_true rfl) (Nat.le_of_ble_eq_true rfl) d_S_becomeFree_72 ⟨⟨_, _, _, Or.inr ⟨c1, rfl, rfl, o3⟩, ⟨s0, ⟨sko, skc⟩, ⟨sbo, sbc⟩⟩⟩, hfr⟩
        · have c2 : ¬ (n ≤ n) := fun z => c2 ((nI_leI (a := n) (b := n) (by omega) (by omega)).mpr z)
          exfalso; omega
      | succ dd ih_15 =>
        intro i e_i w H locs ls s0 sko skc sbo sbc u0 uko ukc ubo ubc hfr hP hD hS hl
        refine lv_iload_n hx hb d_S_becomeFree_15 rfl (lv_at hl 0 rfl) ?_
        refine lv_aload_n hx hb d_S_becomeFree_16 rfl (lv_at hl 1 rfl) ?_
        refine gf_S_9 hF hT hK hP s0 rfl d_S_becomeFree_17 ?_
        refine lv_icmp_ge (tgt := 60) hx hb d_S_becomeFree_20 (by decide) (fun c4 => ?_) (fun c4 => ?_)
        · have c4 := (nI_leI (a := n) (b := i) (by omega) (by omega)).mp c4
          exfalso; omega
        · have c4 : ¬ (n ≤ i) := fun z => c4 ((nI_leI (a := n) (b := i) (by omega) (by omega)).mpr z)
          refine lv_aload_n hx hb d_S_becomeFree_23 rfl (lv_at hl 1 rfl) ?_
          refine gf_S_24 hF hT hK hP s0 rfl d_S_becomeFree_24 ?_
          refine lv_iload_n hx hb d_S_becomeFree_27 rfl (lv_at hl 3 rfl) ?_
          refine gw_ci0 (gc_S_54 (As := [.int x]) (rest := [.ref (a 3)]) hF hT (c_X_placeOf hx0.1 hz) ⟨(Nat.le_of_ble_eq_true rfl), (Nat.le_of_ble_eq_true rfl)⟩ rfl rfl hK hN hP hD rfl hl.1 rfl (Nat.le_of_ble_eq_true rfl) d_S_becomeFree_28 ⟨(Nat.le_of_ble_eq_true rfl), (Nat.le_of_ble_eq_true rfl)⟩) hD hS hA (fun r5 H locs e_r5 hP hD hS => ?_)
          subst e_r5
          refine lv_iload_n hx hb d_S_becomeFree_31 rfl (lv_at hl 0 rfl) ?_
          refine lv_ldc2 (v := lr_E) hx hb hown (hts _ (hT _ wm_2_143)) d_S_becomeFree_32 ?_
          refine gw_cv (gc_S_79 (As := [.int (nI (lr_pl x)), .int (nI i), .long lr_E]) (rest := []) hF hT (c_T_store ⟨sbo, sbc⟩ hn (hx0.2 hz) (by omega)) ⟨(Nat.le_of_ble_eq_true rfl), (Nat.le_of_ble_eq_true rfl)⟩ rfl rfl hK hN hP hD sbo rfl hl.1 rfl (Nat.le_of_ble_eq_true rfl) d_S_becomeFree_35 ⟨(Nat.le_of_ble_eq_true rfl), (Nat.le_of_ble_eq_true rfl)⟩) hD hS hA (fun w H locs hw hP hD hS => ?_)
          obtain ⟨⟨sbo, sbc⟩, hf⟩ := hw
          have s0 := hf.at s0 (by omega)
          have sko := hf.at sko (by omega)
          have skc := hf.at skc (by omega)
          have u0 := hf.at u0 (by omega)
          have uko := hf.at uko (by omega)
          have ukc := hf.at ukc (by omega)
          have ubo := hf.at ubo (by omega)
          have ubc := hf.at ubc (by omega)
          have hfr := hfr.in hf (by omega) (by omega)
          refine lv_aload_n hx hb d_S_becomeFree_38 rfl (lv_at hl 1 rfl) ?_
          refine gf_S_24 hF hT hK hP s0 rfl d_S_becomeFree_39 ?_
          refine lv_iload_n hx hb d_S_becomeFree_42 rfl (lv_at hl 3 rfl) ?_
          refine lv_ineg hx hb d_S_becomeFree_43 ?_
          refine gw_ci0 (gc_S_54 (As := [.int (-x)]) (rest := [.ref (a 3)]) hF hT (c_X_placeOf hx1.1 hz1) ⟨(Nat.le_of_ble_eq_true rfl), (Nat.le_of_ble_eq_true rfl)⟩ rfl rfl hK hN hP hD rfl hl.1 rfl (Nat.le_of_ble_eq_true rfl) d_S_becomeFree_44 ⟨(Nat.le_of_ble_eq_true rfl), (Nat.le_of_ble_eq_true rfl)⟩) hD hS hA (fun r6 H locs e_r6 hP hD hS => ?_)
          subst e_r6
          refine lv_iload_n hx hb d_S_becomeFree_47 rfl (lv_at hl 0 rfl) ?_
          refine lv_ldc2 (v := lr_E) hx hb hown (hts _ (hT _ wm_2_143)) d_S_becomeFree_48 ?_
          refine gw_cv (gc_S_79 (As := [.int (nI (lr_pl (-x))), .int (nI i), .long lr_E]) (rest := []) hF hT (c_T_store ⟨sbo, sbc⟩ hn (hx1.2 hz1) (by omega)) ⟨(Nat.le_of_ble_eq_true rfl), (Nat.le_of_ble_eq_true rfl)⟩ rfl rfl hK hN hP hD sbo rfl hl.1 rfl (Nat.le_of_ble_eq_true rfl) d_S_becomeFree_51 ⟨(Nat.le_of_ble_eq_true rfl), (Nat.le_of_ble_eq_true rfl)⟩) hD hS hA (fun w H locs hw hP hD hS => ?_)
          obtain ⟨⟨sbo, sbc⟩, hf⟩ := hw
          have s0 := hf.at s0 (by omega)
          have sko := hf.at sko (by omega)
          have skc := hf.at skc (by omega)
          have u0 := hf.at u0 (by omega)
          have uko := hf.at uko (by omega)
          have ukc := hf.at ukc (by omega)
          have ubo := hf.at ubo (by omega)
          have ubc := hf.at ubc (by omega)
          have hfr := hfr.in hf (by omega) (by omega)
          refine lv_iinc (v := nI (i + 1)) (lv' := [(3, .int (nI (i + 1))), (0, .ref (a 0)), (1, .ref (b 0)), (2, .int x)]) hx hb d_S_becomeFree_54 hl (k := 0) rfl (gx_inc _) (by decide) rfl (fun ls hl => ?_)
          refine lv_goto (tgt := 15) hx hb d_S_becomeFree_57 (by decide) ?_
          exact ih_15 (i + 1) (by omega) _ _ _ _ s0 sko skc sbo sbc u0 uko ukc ubo ubc hfr hP hD hS (lv_sub hl [0, 1, 2, 3] rfl)
    exact lp_15 n 0 (by omega) _ _ _ _ s0 sko skc sbo sbc u0 uko ukc ubo ubc hfr hP hD hS (lv_sub hl [0, 1, 2, 3] rfl)
  · exact gw_vret hx hb hr hlocks hK hP hD hS (Nat.le_of_ble_eq_true rfl) (Nat.le_of_ble_eq_true rfl) d_S_becomeFree_12 ⟨⟨_, _, _, Or.inl ⟨c1, rfl, rfl, rfl⟩, ⟨s0, ⟨sko, skc⟩, ⟨sbo, sbc⟩⟩⟩, hfr⟩
