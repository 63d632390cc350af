set_option maxHeartbeats 4000000 in
set_option maxRecDepth 100000 in
theorem c_M_set {l : Launch} {D : va_G} {cJ cI cZ cS : ClassId} {ws : va_W} {sz : Nat} {b N nm : Nat} {A : Nat → Nat} {th : Int32} {R Pt nC : Nat → Int64} {Em nA nB : Nat → Int32} (hM : mS cJ cI cZ ws b A N th nm R Em Pt nA nB nC) (hN1 : 1 ≤ N) (hN5 : N ≤ 5) {CF : Nat → Nat → Nat → Int64} (hF1 : lm_F N R Em CF) {o : Option (Nat → Nat → Int64)} {x y z : Int32} {v : Int64} (hc : ∀ k k1, k < 8 → x = nI k → 1 ≤ k1 → k1 ≤ N → y = nI k1 → okT N z → okG v → Em k = 0 → lm_Cl N (lm_setM (CF k) k1 z v) o) : Met l y_M_set w_M_set ({ frames := 4, cells := 0, slots := 0, locals := 71 } : Room) (gw_Pc D classes (gT cJ cI cZ cS) [.ref (A 0), .int x, .int y, .int z, .long v] ws sz) (va_Qi (fun r w => (∃ th' R' E', lm_setO N R Em x y z v o th' r R' E' ∧ mS cJ cI cZ w b A N th' nm R' E' Pt nA nB nC) ∧ gF b (b + 11) ws w) (gw_B D classes (gT cJ cI cZ cS) ws sz) (va_A ws sz)) 0 0 (va_A ws sz) := by
  refine gw_head (by decide) (Nat.le_of_ble_eq_true rfl) (fun p e s m below meth c hsz hx hb hr hlocks hml hown hnm hts hK hN hP hD hS hA ls hl => ?_)
  have hown : s.vm.findClass R_M = some m.cls := hown
  have hT : ∀ w ∈ wG, w ∈ Cond.code y_M_set b_M_set 7 (some .int) :: wG := gd_t _
  have hF : CallFix p m c b_M_set 7 s ([.ref (A 0), .int x, .int y, .int z, .long v] : List Value).toArray (Cond.code y_M_set b_M_set 7 (some .int) :: wG) R_M := ⟨hx, hb, hml, hown, hts⟩
  have hl : lv_has ls 7 [(0, .ref (A 0)), (1, .int x), (2, .int y), (3, .int z), (4, .long v)] := hl
  obtain ⟨D0, O, Md, Lf, m0, mR, mE, mD, mO, mM, mP, mA, mB, mC, mL⟩ := hM
  have hfr : gF b (b + 11) ws ws := gF.rf
  refine lv_aload_n hx hb d_M_set_0 rfl (lv_at hl 0 rfl) ?_
  refine lv_aload_n hx hb d_M_set_1 rfl (lv_at hl 0 rfl) ?_
  refine lv_iload_n hx hb d_M_set_2 rfl (lv_at hl 1 rfl) ?_
  refine gw_ci0 (gc_M_83 (As := [.int x]) (rest := [.ref (A 0)]) hF hT (c_M_isShape m0 hN1 hN5) ⟨(Nat.le_of_ble_eq_true rfl), (Nat.le_of_ble_eq_true rfl)⟩ rfl rfl hK hN hP hD m0 rfl hl.1 rfl (Nat.le_of_ble_eq_true rfl) d_M_set_3 ⟨(Nat.le_of_ble_eq_true rfl), (Nat.le_of_ble_eq_true rfl)⟩) hD hS hA (fun r1 H locs e_r1 hP hD hS => ?_)
  refine lv_if_eq (tgt := 25) hx hb d_M_set_6 (by decide) (fun c2 => ?_) (fun c2 => ?_)
  · refine lv_iconst (v := nI 1) hx hb d_M_set_25 (by decide) ?_
    refine lv_goto (tgt := 42) hx hb d_M_set_26 (by decide) ?_
    refine gp_M_48 hF hT hK hP hD hS (fs1 := [.int (nI 1), .int (nI N), .ref (A 1), .ref (A 2), .ref (A 3), .ref (A 4), .ref (A 5), .ref (A 6), .int (nI nm), .ref (A 7), .ref (A 8), .ref (A 9), .ref (A 10)]) m0 rfl rfl (Nat.le_of_ble_eq_true rfl) rfl d_M_set_42 (fun w H locs m0 hf hP hD hS => ?_)
    have mR := hf.at mR (by omega)
    have mE := hf.at mE (by omega)
    have mD := hf.at mD (by omega)
    have mO := hf.at mO (by omega)
    have mM := hf.at mM (by omega)
    have mP := hf.at mP (by omega)
    have mA := hf.at mA (by omega)
    have mB := hf.at mB (by omega)
    have mC := hf.at mC (by omega)
    have mL := hf.at mL (by omega)
    have hfr := hfr.in hf (by omega) (by omega)
    refine lv_aload_n hx hb d_M_set_45 rfl (lv_at hl 0 rfl) ?_
    refine gf_M_48 hF hT hK hP m0 rfl d_M_set_46 ?_
    refine lv_if_le (tgt := 54) hx hb d_M_set_49 (by decide) (fun c3 => ?_) (fun c3 => ?_)
    · have c3 := (nI_leI (a := 1) (b := 0) (by omega) (by omega)).mp c3
      exfalso; omega
    · have c3 : ¬ (1 ≤ 0) := fun z => c3 ((nI_leI (a := 1) (b := 0) (by omega) (by omega)).mpr z)
      refine lv_iconst (v := nI 0) hx hb d_M_set_52 (by decide) ?_
      exact gw_iret hx hb hr hlocks hK hP hD hS (Nat.le_of_ble_eq_true rfl) (Nat.le_of_ble_eq_true rfl) d_M_set_53 ⟨⟨_, _, _, Or.inl ⟨fun q => gb_t e_r1 c2 q.1, rfl, rfl, rfl⟩, ⟨_, _, _, _, m0, mR, mE, mD, mO, mM, mP, mA, mB, mC, mL⟩⟩, hfr⟩
  · have hq_x := gb_f e_r1 c2
    obtain ⟨k, hk, ek⟩ := hq_x.k
    rw [ek] at hl
    refine lv_aload_n hx hb d_M_set_9 rfl (lv_at hl 0 rfl) ?_
    refine lv_iload_n hx hb d_M_set_10 rfl (lv_at hl 2 rfl) ?_
    refine gw_ci0 (gc_M_132 (As := [.int y]) (rest := [.ref (A 0)]) hF hT (c_M_isName m0 hN1 hN5) ⟨(Nat.le_of_ble_eq_true rfl), (Nat.le_of_ble_eq_true rfl)⟩ rfl rfl hK hN hP hD m0 rfl hl.1 rfl (Nat.le_of_ble_eq_true rfl) d_M_set_11 ⟨(Nat.le_of_ble_eq_true rfl), (Nat.le_of_ble_eq_true rfl)⟩) hD hS hA (fun r4 H locs e_r4 hP hD hS => ?_)
    refine lv_if_eq (tgt := 25) hx hb d_M_set_14 (by decide) (fun c5 => ?_) (fun c5 => ?_)
    · refine lv_iconst (v := nI 1) hx hb d_M_set_25 (by decide) ?_
      refine lv_goto (tgt := 42) hx hb d_M_set_26 (by decide) ?_
      refine gp_M_48 hF hT hK hP hD hS (fs1 := [.int (nI 1), .int (nI N), .ref (A 1), .ref (A 2), .ref (A 3), .ref (A 4), .ref (A 5), .ref (A 6), .int (nI nm), .ref (A 7), .ref (A 8), .ref (A 9), .ref (A 10)]) m0 rfl rfl (Nat.le_of_ble_eq_true rfl) rfl d_M_set_42 (fun w H locs m0 hf hP hD hS => ?_)
      have mR := hf.at mR (by omega)
      have mE := hf.at mE (by omega)
      have mD := hf.at mD (by omega)
      have mO := hf.at mO (by omega)
      have mM := hf.at mM (by omega)
      have mP := hf.at mP (by omega)
      have mA := hf.at mA (by omega)
      have mB := hf.at mB (by omega)
      have mC := hf.at mC (by omega)
      have mL := hf.at mL (by omega)
      have hfr := hfr.in hf (by omega) (by omega)
      refine lv_aload_n hx hb d_M_set_45 rfl (lv_at hl 0 rfl) ?_
      refine gf_M_48 hF hT hK hP m0 rfl d_M_set_46 ?_
      refine lv_if_le (tgt := 54) hx hb d_M_set_49 (by decide) (fun c6 => ?_) (fun c6 => ?_)
      · have c6 := (nI_leI (a := 1) (b := 0) (by omega) (by omega)).mp c6
        exfalso; omega
      · have c6 : ¬ (1 ≤ 0) := fun z => c6 ((nI_leI (a := 1) (b := 0) (by omega) (by omega)).mpr z)
        refine lv_iconst (v := nI 0) hx hb d_M_set_52 (by decide) ?_
        exact gw_iret hx hb hr hlocks hK hP hD hS (Nat.le_of_ble_eq_true rfl) (Nat.le_of_ble_eq_true rfl) d_M_set_53 ⟨⟨_, _, _, Or.inl ⟨fun q => gb_t e_r4 c5 q.2.1, rfl, rfl, rfl⟩, ⟨_, _, _, _, m0, mR, mE, mD, mO, mM, mP, mA, mB, mC, mL⟩⟩, hfr⟩
    · have hq_y := gb_f e_r4 c5
      obtain ⟨k1, hk1, hk15, ek1⟩ := hq_y.k hN5
      have ht_y := hq_y.tm hN5
      rw [ek1] at hl ht_y
      refine lv_aload_n hx hb d_M_set_17 rfl (lv_at hl 0 rfl) ?_
      refine lv_iload_n hx hb d_M_set_18 rfl (lv_at hl 3 rfl) ?_
      refine gw_ci0 (gc_M_91 (As := [.int z]) (rest := [.ref (A 0)]) hF hT (c_M_isTerm m0 hN1 hN5) ⟨(Nat.le_of_ble_eq_true rfl), (Nat.le_of_ble_eq_true rfl)⟩ rfl rfl hK hN hP hD m0 rfl hl.1 rfl (Nat.le_of_ble_eq_true rfl) d_M_set_19 ⟨(Nat.le_of_ble_eq_true rfl), (Nat.le_of_ble_eq_true rfl)⟩) hD hS hA (fun r7 H locs e_r7 hP hD hS => ?_)
      refine lv_if_ne (tgt := 29) hx hb d_M_set_22 (by decide) (fun c8 => ?_) (fun c8 => ?_)
      · have hq_z := gb_f e_r7 c8
        have ht_z := hq_z.tm hN5
        refine lv_lload hx hb d_M_set_29 (lv_at hl 4 rfl) ?_
        refine gw_ci0 (gc_M_94 (As := [.long v]) (rest := [.ref (A 0)]) hF hT (c_M_isSmall) ⟨(Nat.le_of_ble_eq_true rfl), (Nat.le_of_ble_eq_true rfl)⟩ rfl rfl hK hN hP hD rfl hl.1 rfl (Nat.le_of_ble_eq_true rfl) d_M_set_31 ⟨(Nat.le_of_ble_eq_true rfl), (Nat.le_of_ble_eq_true rfl)⟩) hD hS hA (fun r9 H locs e_r9 hP hD hS => ?_)
        refine lv_if_ne (tgt := 41) hx hb d_M_set_34 (by decide) (fun c10 => ?_) (fun c10 => ?_)
        · have hq_v := gb_f e_r9 c10
          refine lv_iconst (v := nI 0) hx hb d_M_set_41 (by decide) ?_
          refine gp_M_48 hF hT hK hP hD hS (fs1 := [.int (nI 0), .int (nI N), .ref (A 1), .ref (A 2), .ref (A 3), .ref (A 4), .ref (A 5), .ref (A 6), .int (nI nm), .ref (A 7), .ref (A 8), .ref (A 9), .ref (A 10)]) m0 rfl rfl (Nat.le_of_ble_eq_true rfl) rfl d_M_set_42 (fun w H locs m0 hf hP hD hS => ?_)
          have mR := hf.at mR (by omega)
          have mE := hf.at mE (by omega)
          have mD := hf.at mD (by omega)
          have mO := hf.at mO (by omega)
          have mM := hf.at mM (by omega)
          have mP := hf.at mP (by omega)
          have mA := hf.at mA (by omega)
          have mB := hf.at mB (by omega)
          have mC := hf.at mC (by omega)
          have mL := hf.at mL (by omega)
          have hfr := hfr.in hf (by omega) (by omega)
          refine lv_aload_n hx hb d_M_set_45 rfl (lv_at hl 0 rfl) ?_
          refine gf_M_48 hF hT hK hP m0 rfl d_M_set_46 ?_
          refine lv_if_le (tgt := 54) hx hb d_M_set_49 (by decide) (fun c11 => ?_) (fun c11 => ?_)
          · have c11 := (nI_leI (a := 0) (b := 0) (by omega) (by omega)).mp c11
            refine lv_aload_n hx hb d_M_set_54 rfl (lv_at hl 0 rfl) ?_
            refine lv_iload_n hx hb d_M_set_55 rfl (lv_at hl 1 rfl) ?_
            refine gw_ci (gc_M_98 (As := [.int (nI k)]) (rest := []) hF hT (c_M_closeShape m0 mR mE mD hN1 hN5 (u := k) (by omega) (hF1 k hk)) ⟨(Nat.le_of_ble_eq_true rfl), (Nat.le_of_ble_eq_true rfl)⟩ rfl rfl hK hN hP hD m0 rfl hl.1 rfl (Nat.le_of_ble_eq_true rfl) d_M_set_56 ⟨(Nat.le_of_ble_eq_true rfl), (Nat.le_of_ble_eq_true rfl)⟩) hD hS hA (fun r12 w H locs hw hP hD hS => ?_)
            obtain ⟨⟨F13, mD, h_r12⟩, hf⟩ := hw
            have m0 := hf.at m0 (by omega)
            have mR := hf.at mR (by omega)
            have mE := hf.at mE (by omega)
            have mO := hf.at mO (by omega)
            have mM := hf.at mM (by omega)
            have mP := hf.at mP (by omega)
            have mA := hf.at mA (by omega)
            have mB := hf.at mB (by omega)
            have mC := hf.at mC (by omega)
            have mL := hf.at mL (by omega)
            have hfr := hfr.in hf (by omega) (by omega)
            refine lv_if_ne (tgt := 69) hx hb d_M_set_59 (by decide) (fun c14 => ?_) (fun c14 => ?_)
            · obtain ⟨hE56, _, hag56⟩ := h_r12.y c14
              refine lv_iload_n hx hb d_M_set_69 rfl (lv_at hl 3 rfl) ?_
              refine lv_iload_n hx hb d_M_set_70 rfl (lv_at hl 2 rfl) ?_
              refine lv_icmp_eq (tgt := 80) hx hb d_M_set_71 (by decide) (fun c15 => ?_) (fun c15 => ?_)
              · refine lv_aload_n hx hb d_M_set_80 rfl (lv_at hl 0 rfl) ?_
                refine lv_iload_n hx hb d_M_set_81 rfl (lv_at hl 2 rfl) ?_
                have mg_93 : ∀ (H : Heap) (locs : List Loc), va_P D classes w H → va_D (va_A ws sz) w → va_S (va_A ws sz) s.heap H locs → W p l e ({ frames := 4, cells := 0, slots := 0, locals := 71 } : Room) s m ([.ref (A 0), .int x, .int y, .int z, .long v] : List Value).toArray below meth c H locs 0 0 (MQ below (va_Qi (fun r w => (∃ th' R' E', lm_setO N R Em x y z v o th' r R' E' ∧ mS cJ cI cZ w b A N th' nm R' E' Pt nA nB nC) ∧ gF b (b + 11) ws w) (gw_B D classes (gT cJ cI cZ cS) ws sz) (va_A ws sz)) ([.ref (A 0), .int x, .int y, .int z, .long v] : List Value).toArray s 0 0 (va_A ws sz)) (F0 m 93 ls [.int (lm_ls (nI k1) z), .int (nI k1), .ref (A 0)]) := by
                  intro H locs hP hD hS
                  refine lv_lload hx hb d_M_set_93 (lv_at hl 4 rfl) ?_
                  refine gw_cv (gc_M_135 (As := [.int (nI k1), .int (lm_ls (nI k1) z), .long v]) (rest := []) hF hT (c_M_turn m0 mD mO hN1 hN5 hag56 (x := k1) hk1 hk15) ⟨(Nat.le_of_ble_eq_true rfl), (Nat.le_of_ble_eq_true rfl)⟩ rfl rfl hK hN hP hD m0 rfl hl.1 rfl (Nat.le_of_ble_eq_true rfl) d_M_set_95 ⟨(Nat.le_of_ble_eq_true rfl), (Nat.le_of_ble_eq_true rfl)⟩) hD hS hA (fun w H locs hw hP hD hS => ?_)
                  obtain ⟨⟨F16, OF16, mD, mO, ag17⟩, hf⟩ := hw
                  have m0 := hf.at m0 (by omega)
                  have mR := hf.at mR (by omega)
                  have mE := hf.at mE (by omega)
                  have mM := hf.at mM (by omega)
                  have mP := hf.at mP (by omega)
                  have mA := hf.at mA (by omega)
                  have mB := hf.at mB (by omega)
                  have mC := hf.at mC (by omega)
                  have mL := hf.at mL (by omega)
                  have hfr := hfr.in hf (by omega) (by omega)
                  refine lv_goto (tgt := 125) hx hb d_M_set_98 (by decide) ?_
                  refine lv_aload_n hx hb d_M_set_125 rfl (lv_at hl 0 rfl) ?_
                  refine gw_ci (gc_M_69 (As := []) (rest := []) hF hT (c_M_close m0 mD hN1 hN5 ag17 (by have h9 := hc k k1 hk ek hk1 hk15 ek1 hq_z hq_v hE56; unfold lm_setM at h9; rw [if_pos c15] at h9; exact h9)) ⟨(Nat.le_of_ble_eq_true rfl), (Nat.le_of_ble_eq_true rfl)⟩ rfl rfl hK hN hP hD m0 rfl hl.1 rfl (Nat.le_of_ble_eq_true rfl) d_M_set_126 ⟨(Nat.le_of_ble_eq_true rfl), (Nat.le_of_ble_eq_true rfl)⟩) hD hS hA (fun r18 w H locs hw hP hD hS => ?_)
                  obtain ⟨⟨F19, mD, h_r18⟩, hf⟩ := hw
                  have m0 := hf.at m0 (by omega)
                  have mR := hf.at mR (by omega)
                  have mE := hf.at mE (by omega)
                  have mO := hf.at mO (by omega)
                  have mM := hf.at mM (by omega)
                  have mP := hf.at mP (by omega)
                  have mA := hf.at mA (by omega)
                  have mB := hf.at mB (by omega)
                  have mC := hf.at mC (by omega)
                  have mL := hf.at mL (by omega)
                  have hfr := hfr.in hf (by omega) (by omega)
                  refine lv_istore (lv' := [(6, .int r18), (0, .ref (A 0)), (1, .int (nI k)), (2, .int (nI k1)), (3, .int z), (4, .long v)]) hx hb d_M_set_129 hl (by decide) rfl (fun ls hl => ?_)
                  refine lv_aload_n hx hb d_M_set_131 rfl (lv_at hl 1 rfl) ?_
                  refine lv_iload hx hb d_M_set_132 (lv_at hl 0 rfl) ?_
                  refine lv_if_eq (tgt := 148) hx hb d_M_set_134 (by decide) (fun c20 => ?_) (fun c20 => ?_)
                  · refine lv_iconst (v := nI 0) hx hb d_M_set_148 (by decide) ?_
                    refine gp_M_48 hF hT hK hP hD hS (fs1 := [.int (nI 0), .int (nI N), .ref (A 1), .ref (A 2), .ref (A 3), .ref (A 4), .ref (A 5), .ref (A 6), .int (nI nm), .ref (A 7), .ref (A 8), .ref (A 9), .ref (A 10)]) m0 rfl rfl (Nat.le_of_ble_eq_true rfl) rfl d_M_set_149 (fun w H locs m0 hf hP hD hS => ?_)
                    have mR := hf.at mR (by omega)
                    have mE := hf.at mE (by omega)
                    have mD := hf.at mD (by omega)
                    have mO := hf.at mO (by omega)
                    have mM := hf.at mM (by omega)
                    have mP := hf.at mP (by omega)
                    have mA := hf.at mA (by omega)
                    have mB := hf.at mB (by omega)
                    have mC := hf.at mC (by omega)
                    have mL := hf.at mL (by omega)
                    have hfr := hfr.in hf (by omega) (by omega)
                    refine lv_aload_n hx hb d_M_set_152 rfl (lv_at hl 1 rfl) ?_
                    refine gf_M_48 hF hT hK hP m0 rfl d_M_set_153 ?_
                    refine lv_if_le (tgt := 163) hx hb d_M_set_156 (by decide) (fun c21 => ?_) (fun c21 => ?_)
                    · have c21 := (nI_leI (a := 0) (b := 0) (by omega) (by omega)).mp c21
                      refine lv_aload_n hx hb d_M_set_163 rfl (lv_at hl 1 rfl) ?_
                      refine lv_iload_n hx hb d_M_set_164 rfl (lv_at hl 2 rfl) ?_
                      refine lv_iload hx hb d_M_set_165 (lv_at hl 0 rfl) ?_
                      refine gw_ci (gc_M_114 (As := [.int (nI k), .int r18]) (rest := []) hF hT (c_M_keepClosed m0 mR mE mD hN1 hN5 (u := k) (by omega) (z := r18)) ⟨(Nat.le_of_ble_eq_true rfl), (Nat.le_of_ble_eq_true rfl)⟩ rfl rfl hK hN hP hD m0 rfl hl.1 rfl (Nat.le_of_ble_eq_true rfl) d_M_set_167 ⟨(Nat.le_of_ble_eq_true rfl), (Nat.le_of_ble_eq_true rfl)⟩) hD hS hA (fun r22 w H locs hw hP hD hS => ?_)
                      obtain ⟨hw, hf⟩ := hw
                      obtain ⟨Rr22, Er22, h_r22, mR, mE⟩ := lm_kcW hw
                      have m0 := hf.at m0 (by omega)
                      have mD := hf.at mD (by omega)
                      have mO := hf.at mO (by omega)
                      have mM := hf.at mM (by omega)
                      have mP := hf.at mP (by omega)
                      have mA := hf.at mA (by omega)
                      have mB := hf.at mB (by omega)
                      have mC := hf.at mC (by omega)
                      have mL := hf.at mL (by omega)
                      have hfr := hfr.in hf (by omega) (by omega)
                      exact gw_iret hx hb hr hlocks hK hP hD hS (Nat.le_of_ble_eq_true rfl) (Nat.le_of_ble_eq_true rfl) d_M_set_170 ⟨⟨_, _, _, Or.inr (Or.inr ⟨k, k1, hk, ek, hk1, hk15, ek1, hq_z, hq_v, Or.inr ⟨hE56, _, _, h_r18, Or.inr ⟨lm_onone (h_r18.n c20), rfl, h_r22⟩⟩⟩), ⟨_, _, _, _, m0, mR, mE, mD, mO, mM, mP, mA, mB, mC, mL⟩⟩, hfr⟩
                    · have c21 : ¬ (0 ≤ 0) := fun z => c21 ((nI_leI (a := 0) (b := 0) (by omega) (by omega)).mpr z)
                      exfalso; omega
                  · obtain ⟨_, Y, hoY, hag⟩ := h_r18.y c20
                    refine lv_aload_n hx hb d_M_set_137 rfl (lv_at hl 1 rfl) ?_
                    refine gw_ci0 (gc_M_101 (As := []) (rest := [.ref (A 0)]) hF hT (c_M_isFar m0 mD hN1 hN5 hag) ⟨(Nat.le_of_ble_eq_true rfl), (Nat.le_of_ble_eq_true rfl)⟩ rfl rfl hK hN hP hD m0 rfl hl.1 rfl (Nat.le_of_ble_eq_true rfl) d_M_set_138 ⟨(Nat.le_of_ble_eq_true rfl), (Nat.le_of_ble_eq_true rfl)⟩) hD hS hA (fun r23 H locs e_r23 hP hD hS => ?_)
                    refine lv_if_eq (tgt := 148) hx hb d_M_set_141 (by decide) (fun c24 => ?_) (fun c24 => ?_)
                    · refine lv_iconst (v := nI 0) hx hb d_M_set_148 (by decide) ?_
                      refine gp_M_48 hF hT hK hP hD hS (fs1 := [.int (nI 0), .int (nI N), .ref (A 1), .ref (A 2), .ref (A 3), .ref (A 4), .ref (A 5), .ref (A 6), .int (nI nm), .ref (A 7), .ref (A 8), .ref (A 9), .ref (A 10)]) m0 rfl rfl (Nat.le_of_ble_eq_true rfl) rfl d_M_set_149 (fun w H locs m0 hf hP hD hS => ?_)
                      have mR := hf.at mR (by omega)
                      have mE := hf.at mE (by omega)
                      have mD := hf.at mD (by omega)
                      have mO := hf.at mO (by omega)
                      have mM := hf.at mM (by omega)
                      have mP := hf.at mP (by omega)
                      have mA := hf.at mA (by omega)
                      have mB := hf.at mB (by omega)
                      have mC := hf.at mC (by omega)
                      have mL := hf.at mL (by omega)
                      have hfr := hfr.in hf (by omega) (by omega)
                      refine lv_aload_n hx hb d_M_set_152 rfl (lv_at hl 1 rfl) ?_
                      refine gf_M_48 hF hT hK hP m0 rfl d_M_set_153 ?_
                      refine lv_if_le (tgt := 163) hx hb d_M_set_156 (by decide) (fun c25 => ?_) (fun c25 => ?_)
                      · have c25 := (nI_leI (a := 0) (b := 0) (by omega) (by omega)).mp c25
                        refine lv_aload_n hx hb d_M_set_163 rfl (lv_at hl 1 rfl) ?_
                        refine lv_iload_n hx hb d_M_set_164 rfl (lv_at hl 2 rfl) ?_
                        refine lv_iload hx hb d_M_set_165 (lv_at hl 0 rfl) ?_
                        refine gw_ci (gc_M_114 (As := [.int (nI k), .int r18]) (rest := []) hF hT (c_M_keepClosed m0 mR mE mD hN1 hN5 (u := k) (by omega) (z := r18)) ⟨(Nat.le_of_ble_eq_true rfl), (Nat.le_of_ble_eq_true rfl)⟩ rfl rfl hK hN hP hD m0 rfl hl.1 rfl (Nat.le_of_ble_eq_true rfl) d_M_set_167 ⟨(Nat.le_of_ble_eq_true rfl), (Nat.le_of_ble_eq_true rfl)⟩) hD hS hA (fun r26 w H locs hw hP hD hS => ?_)
                        obtain ⟨hw, hf⟩ := hw
                        obtain ⟨Rr26, Er26, h_r26, mR, mE⟩ := lm_kcW hw
                        have m0 := hf.at m0 (by omega)
                        have mD := hf.at mD (by omega)
                        have mO := hf.at mO (by omega)
                        have mM := hf.at mM (by omega)
                        have mP := hf.at mP (by omega)
                        have mA := hf.at mA (by omega)
                        have mB := hf.at mB (by omega)
                        have mC := hf.at mC (by omega)
                        have mL := hf.at mL (by omega)
                        have hfr := hfr.in hf (by omega) (by omega)
                        exact gw_iret hx hb hr hlocks hK hP hD hS (Nat.le_of_ble_eq_true rfl) (Nat.le_of_ble_eq_true rfl) d_M_set_170 ⟨⟨_, _, _, Or.inr (Or.inr ⟨k, k1, hk, ek, hk1, hk15, ek1, hq_z, hq_v, Or.inr ⟨hE56, _, _, h_r18, Or.inr ⟨lm_oall hoY (gb_t e_r23 c24), rfl, h_r26⟩⟩⟩), ⟨_, _, _, _, m0, mR, mE, mD, mO, mM, mP, mA, mB, mC, mL⟩⟩, hfr⟩
                      · have c25 : ¬ (0 ≤ 0) := fun z => c25 ((nI_leI (a := 0) (b := 0) (by omega) (by omega)).mpr z)
                        exfalso; omega
                    · refine lv_iconst (v := nI 3) hx hb d_M_set_144 (by decide) ?_
                      refine lv_goto (tgt := 149) hx hb d_M_set_145 (by decide) ?_
                      refine gp_M_48 hF hT hK hP hD hS (fs1 := [.int (nI 3), .int (nI N), .ref (A 1), .ref (A 2), .ref (A 3), .ref (A 4), .ref (A 5), .ref (A 6), .int (nI nm), .ref (A 7), .ref (A 8), .ref (A 9), .ref (A 10)]) m0 rfl rfl (Nat.le_of_ble_eq_true rfl) rfl d_M_set_149 (fun w H locs m0 hf hP hD hS => ?_)
                      have mR := hf.at mR (by omega)
                      have mE := hf.at mE (by omega)
                      have mD := hf.at mD (by omega)
                      have mO := hf.at mO (by omega)
                      have mM := hf.at mM (by omega)
                      have mP := hf.at mP (by omega)
                      have mA := hf.at mA (by omega)
                      have mB := hf.at mB (by omega)
                      have mC := hf.at mC (by omega)
                      have mL := hf.at mL (by omega)
                      have hfr := hfr.in hf (by omega) (by omega)
                      refine lv_aload_n hx hb d_M_set_152 rfl (lv_at hl 1 rfl) ?_
                      refine gf_M_48 hF hT hK hP m0 rfl d_M_set_153 ?_
                      refine lv_if_le (tgt := 163) hx hb d_M_set_156 (by decide) (fun c27 => ?_) (fun c27 => ?_)
                      · have c27 := (nI_leI (a := 3) (b := 0) (by omega) (by omega)).mp c27
                        exfalso; omega
                      · have c27 : ¬ (3 ≤ 0) := fun z => c27 ((nI_leI (a := 3) (b := 0) (by omega) (by omega)).mpr z)
                        refine lv_iconst (v := nI 0) hx hb d_M_set_159 (by decide) ?_
                        refine lv_goto (tgt := 170) hx hb d_M_set_160 (by decide) ?_
                        exact gw_iret hx hb hr hlocks hK hP hD hS (Nat.le_of_ble_eq_true rfl) (Nat.le_of_ble_eq_true rfl) d_M_set_170 ⟨⟨_, _, _, Or.inr (Or.inr ⟨k, k1, hk, ek, hk1, hk15, ek1, hq_z, hq_v, Or.inr ⟨hE56, _, _, h_r18, Or.inl ⟨c20, lm_oall hoY (gb_f e_r23 c24), rfl, rfl, rfl, rfl⟩⟩⟩), ⟨_, _, _, _, m0, mR, mE, mD, mO, mM, mP, mA, mB, mC, mL⟩⟩, hfr⟩
                refine lv_iload_n hx hb d_M_set_82 rfl (lv_at hl 3 rfl) ?_
                refine lv_iload_n hx hb d_M_set_83 rfl (lv_at hl 2 rfl) ?_
                refine lv_ineg hx hb d_M_set_84 ?_
                refine lv_icmp_ne (tgt := 92) hx hb d_M_set_85 (by decide) (fun c28 => ?_) (fun c28 => ?_)
                · refine lv_iconst (v := nI 0) hx hb d_M_set_92 (by decide) ?_
                  exact gx_i (y := lm_ls (nI k1) z) (by unfold lm_ls; rw [if_neg c28]) (mg_93 _ _ hP hD hS)
                · refine lv_iconst (v := nI 1) hx hb d_M_set_88 (by decide) ?_
                  refine lv_goto (tgt := 93) hx hb d_M_set_89 (by decide) ?_
                  exact gx_i (y := lm_ls (nI k1) z) (by unfold lm_ls; rw [if_pos c28]) (mg_93 _ _ hP hD hS)
              · refine lv_iload_n hx hb d_M_set_74 rfl (lv_at hl 3 rfl) ?_
                refine lv_iload_n hx hb d_M_set_75 rfl (lv_at hl 2 rfl) ?_
                refine lv_ineg hx hb d_M_set_76 ?_
                refine lv_icmp_ne (tgt := 101) hx hb d_M_set_77 (by decide) (fun c29 => ?_) (fun c29 => ?_)
                · refine lv_aload_n hx hb d_M_set_101 rfl (lv_at hl 0 rfl) ?_
                  refine lv_iload_n hx hb d_M_set_102 rfl (lv_at hl 2 rfl) ?_
                  refine gw_cv (gc_M_139 (As := [.int (nI k1)]) (rest := []) hF hT (c_M_drop m0 mD hN1 hN5 hag56 (x := k1) hk1 hk15) ⟨(Nat.le_of_ble_eq_true rfl), (Nat.le_of_ble_eq_true rfl)⟩ rfl rfl hK hN hP hD m0 rfl hl.1 rfl (Nat.le_of_ble_eq_true rfl) d_M_set_103 ⟨(Nat.le_of_ble_eq_true rfl), (Nat.le_of_ble_eq_true rfl)⟩) hD hS hA (fun w H locs hw hP hD hS => ?_)
                  obtain ⟨⟨F30, mD, ag31⟩, hf⟩ := hw
                  have m0 := hf.at m0 (by omega)
                  have mR := hf.at mR (by omega)
                  have mE := hf.at mE (by omega)
                  have mO := hf.at mO (by omega)
                  have mM := hf.at mM (by omega)
                  have mP := hf.at mP (by omega)
                  have mA := hf.at mA (by omega)
                  have mB := hf.at mB (by omega)
                  have mC := hf.at mC (by omega)
                  have mL := hf.at mL (by omega)
                  have hfr := hfr.in hf (by omega) (by omega)
                  refine lv_aload_n hx hb d_M_set_106 rfl (lv_at hl 0 rfl) ?_
                  refine lv_iload_n hx hb d_M_set_107 rfl (lv_at hl 2 rfl) ?_
                  refine lv_iload_n hx hb d_M_set_108 rfl (lv_at hl 3 rfl) ?_
                  refine lv_ineg hx hb d_M_set_109 ?_
                  refine lv_lload hx hb d_M_set_110 (lv_at hl 4 rfl) ?_
                  refine gw_cv (gc_M_142 (As := [.int (nI k1), .int (-z), .long v]) (rest := []) hF hT (c_M_addRow m0 mD hN1 hN5 ag31 ht_y (lr_tm_neg (by omega) ht_z) (fun q => nI_nz hk1 (by omega) q.1)) ⟨(Nat.le_of_ble_eq_true rfl), (Nat.le_of_ble_eq_true rfl)⟩ rfl rfl hK hN hP hD m0 rfl hl.1 rfl (Nat.le_of_ble_eq_true rfl) d_M_set_112 ⟨(Nat.le_of_ble_eq_true rfl), (Nat.le_of_ble_eq_true rfl)⟩) hD hS hA (fun w H locs hw hP hD hS => ?_)
                  obtain ⟨⟨F32, mD, ag33⟩, hf⟩ := hw
                  have m0 := hf.at m0 (by omega)
                  have mR := hf.at mR (by omega)
                  have mE := hf.at mE (by omega)
                  have mO := hf.at mO (by omega)
                  have mM := hf.at mM (by omega)
                  have mP := hf.at mP (by omega)
                  have mA := hf.at mA (by omega)
                  have mB := hf.at mB (by omega)
                  have mC := hf.at mC (by omega)
                  have mL := hf.at mL (by omega)
                  have hfr := hfr.in hf (by omega) (by omega)
                  refine lv_aload_n hx hb d_M_set_115 rfl (lv_at hl 0 rfl) ?_
                  refine lv_iload_n hx hb d_M_set_116 rfl (lv_at hl 2 rfl) ?_
                  refine lv_ineg hx hb d_M_set_117 ?_
                  refine lv_iload_n hx hb d_M_set_118 rfl (lv_at hl 3 rfl) ?_
                  refine lv_lload hx hb d_M_set_119 (lv_at hl 4 rfl) ?_
                  refine lv_lneg hx hb d_M_set_121 ?_
                  refine gw_cv (gc_M_142 (As := [.int (-(nI k1)), .int z, .long (-v)]) (rest := []) hF hT (c_M_addRow m0 mD hN1 hN5 ag33 (lr_tm_neg (by omega) ht_y) ht_z (fun q => mI_nz hk1 (by omega) q.1)) ⟨(Nat.le_of_ble_eq_true rfl), (Nat.le_of_ble_eq_true rfl)⟩ rfl rfl hK hN hP hD m0 rfl hl.1 rfl (Nat.le_of_ble_eq_true rfl) d_M_set_122 ⟨(Nat.le_of_ble_eq_true rfl), (Nat.le_of_ble_eq_true rfl)⟩) hD hS hA (fun w H locs hw hP hD hS => ?_)
                  obtain ⟨⟨F34, mD, ag35⟩, hf⟩ := hw
                  have m0 := hf.at m0 (by omega)
                  have mR := hf.at mR (by omega)
                  have mE := hf.at mE (by omega)
                  have mO := hf.at mO (by omega)
                  have mM := hf.at mM (by omega)
                  have mP := hf.at mP (by omega)
                  have mA := hf.at mA (by omega)
                  have mB := hf.at mB (by omega)
                  have mC := hf.at mC (by omega)
                  have mL := hf.at mL (by omega)
                  have hfr := hfr.in hf (by omega) (by omega)
                  refine lv_aload_n hx hb d_M_set_125 rfl (lv_at hl 0 rfl) ?_
                  refine gw_ci (gc_M_69 (As := []) (rest := []) hF hT (c_M_close m0 mD hN1 hN5 ag35 (by have h9 := hc k k1 hk ek hk1 hk15 ek1 hq_z hq_v hE56; unfold lm_setM at h9; rw [if_neg c15, if_neg c29] at h9; exact h9)) ⟨(Nat.le_of_ble_eq_true rfl), (Nat.le_of_ble_eq_true rfl)⟩ rfl rfl hK hN hP hD m0 rfl hl.1 rfl (Nat.le_of_ble_eq_true rfl) d_M_set_126 ⟨(Nat.le_of_ble_eq_true rfl), (Nat.le_of_ble_eq_true rfl)⟩) hD hS hA (fun r36 w H locs hw hP hD hS => ?_)
                  obtain ⟨⟨F37, mD, h_r36⟩, hf⟩ := hw
                  have m0 := hf.at m0 (by omega)
                  have mR := hf.at mR (by omega)
                  have mE := hf.at mE (by omega)
                  have mO := hf.at mO (by omega)
                  have mM := hf.at mM (by omega)
                  have mP := hf.at mP (by omega)
                  have mA := hf.at mA (by omega)
                  have mB := hf.at mB (by omega)
                  have mC := hf.at mC (by omega)
                  have mL := hf.at mL (by omega)
                  have hfr := hfr.in hf (by omega) (by omega)
                  refine lv_istore (lv' := [(6, .int r36), (0, .ref (A 0)), (1, .int (nI k)), (2, .int (nI k1)), (3, .int z), (4, .long v)]) hx hb d_M_set_129 hl (by decide) rfl (fun ls hl => ?_)
                  refine lv_aload_n hx hb d_M_set_131 rfl (lv_at hl 1 rfl) ?_
                  refine lv_iload hx hb d_M_set_132 (lv_at hl 0 rfl) ?_
                  refine lv_if_eq (tgt := 148) hx hb d_M_set_134 (by decide) (fun c38 => ?_) (fun c38 => ?_)
                  · refine lv_iconst (v := nI 0) hx hb d_M_set_148 (by decide) ?_
                    refine gp_M_48 hF hT hK hP hD hS (fs1 := [.int (nI 0), .int (nI N), .ref (A 1), .ref (A 2), .ref (A 3), .ref (A 4), .ref (A 5), .ref (A 6), .int (nI nm), .ref (A 7), .ref (A 8), .ref (A 9), .ref (A 10)]) m0 rfl rfl (Nat.le_of_ble_eq_true rfl) rfl d_M_set_149 (fun w H locs m0 hf hP hD hS => ?_)
                    have mR := hf.at mR (by omega)
                    have mE := hf.at mE (by omega)
                    have mD := hf.at mD (by omega)
                    have mO := hf.at mO (by omega)
                    have mM := hf.at mM (by omega)
                    have mP := hf.at mP (by omega)
                    have mA := hf.at mA (by omega)
                    have mB := hf.at mB (by omega)
                    have mC := hf.at mC (by omega)
                    have mL := hf.at mL (by omega)
                    have hfr := hfr.in hf (by omega) (by omega)
                    refine lv_aload_n hx hb d_M_set_152 rfl (lv_at hl 1 rfl) ?_
                    refine gf_M_48 hF hT hK hP m0 rfl d_M_set_153 ?_
                    refine lv_if_le (tgt := 163) hx hb d_M_set_156 (by decide) (fun c39 => ?_) (fun c39 => ?_)
                    · have c39 := (nI_leI (a := 0) (b := 0) (by omega) (by omega)).mp c39
                      refine lv_aload_n hx hb d_M_set_163 rfl (lv_at hl 1 rfl) ?_
                      refine lv_iload_n hx hb d_M_set_164 rfl (lv_at hl 2 rfl) ?_
                      refine lv_iload hx hb d_M_set_165 (lv_at hl 0 rfl) ?_
                      refine gw_ci (gc_M_114 (As := [.int (nI k), .int r36]) (rest := []) hF hT (c_M_keepClosed m0 mR mE mD hN1 hN5 (u := k) (by omega) (z := r36)) ⟨(Nat.le_of_ble_eq_true rfl), (Nat.le_of_ble_eq_true rfl)⟩ rfl rfl hK hN hP hD m0 rfl hl.1 rfl (Nat.le_of_ble_eq_true rfl) d_M_set_167 ⟨(Nat.le_of_ble_eq_true rfl), (Nat.le_of_ble_eq_true rfl)⟩) hD hS hA (fun r40 w H locs hw hP hD hS => ?_)
                      obtain ⟨hw, hf⟩ := hw
                      obtain ⟨Rr40, Er40, h_r40, mR, mE⟩ := lm_kcW hw
                      have m0 := hf.at m0 (by omega)
                      have mD := hf.at mD (by omega)
                      have mO := hf.at mO (by omega)
                      have mM := hf.at mM (by omega)
                      have mP := hf.at mP (by omega)
                      have mA := hf.at mA (by omega)
                      have mB := hf.at mB (by omega)
                      have mC := hf.at mC (by omega)
                      have mL := hf.at mL (by omega)
                      have hfr := hfr.in hf (by omega) (by omega)
                      exact gw_iret hx hb hr hlocks hK hP hD hS (Nat.le_of_ble_eq_true rfl) (Nat.le_of_ble_eq_true rfl) d_M_set_170 ⟨⟨_, _, _, Or.inr (Or.inr ⟨k, k1, hk, ek, hk1, hk15, ek1, hq_z, hq_v, Or.inr ⟨hE56, _, _, h_r36, Or.inr ⟨lm_onone (h_r36.n c38), rfl, h_r40⟩⟩⟩), ⟨_, _, _, _, m0, mR, mE, mD, mO, mM, mP, mA, mB, mC, mL⟩⟩, hfr⟩
                    · have c39 : ¬ (0 ≤ 0) := fun z => c39 ((nI_leI (a := 0) (b := 0) (by omega) (by omega)).mpr z)
                      exfalso; omega
                  · obtain ⟨_, Y, hoY, hag⟩ := h_r36.y c38
                    refine lv_aload_n hx hb d_M_set_137 rfl (lv_at hl 1 rfl) ?_
                    refine gw_ci0 (gc_M_101 (As := []) (rest := [.ref (A 0)]) hF hT (c_M_isFar m0 mD hN1 hN5 hag) ⟨(Nat.le_of_ble_eq_true rfl), (Nat.le_of_ble_eq_true rfl)⟩ rfl rfl hK hN hP hD m0 rfl hl.1 rfl (Nat.le_of_ble_eq_true rfl) d_M_set_138 ⟨(Nat.le_of_ble_eq_true rfl), (Nat.le_of_ble_eq_true rfl)⟩) hD hS hA (fun r41 H locs e_r41 hP hD hS => ?_)
                    refine lv_if_eq (tgt := 148) hx hb d_M_set_141 (by decide) (fun c42 => ?_) (fun c42 => ?_)
                    · refine lv_iconst (v := nI 0) hx hb d_M_set_148 (by decide) ?_
                      refine gp_M_48 hF hT hK hP hD hS (fs1 := [.int (nI 0), .int (nI N), .ref (A 1), .ref (A 2), .ref (A 3), .ref (A 4), .ref (A 5), .ref (A 6), .int (nI nm), .ref (A 7), .ref (A 8), .ref (A 9), .ref (A 10)]) m0 rfl rfl (Nat.le_of_ble_eq_true rfl) rfl d_M_set_149 (fun w H locs m0 hf hP hD hS => ?_)
                      have mR := hf.at mR (by omega)
                      have mE := hf.at mE (by omega)
                      have mD := hf.at mD (by omega)
                      have mO := hf.at mO (by omega)
                      have mM := hf.at mM (by omega)
                      have mP := hf.at mP (by omega)
                      have mA := hf.at mA (by omega)
                      have mB := hf.at mB (by omega)
                      have mC := hf.at mC (by omega)
                      have mL := hf.at mL (by omega)
                      have hfr := hfr.in hf (by omega) (by omega)
                      refine lv_aload_n hx hb d_M_set_152 rfl (lv_at hl 1 rfl) ?_
                      refine gf_M_48 hF hT hK hP m0 rfl d_M_set_153 ?_
                      refine lv_if_le (tgt := 163) hx hb d_M_set_156 (by decide) (fun c43 => ?_) (fun c43 => ?_)
                      · have c43 := (nI_leI (a := 0) (b := 0) (by omega) (by omega)).mp c43
                        refine lv_aload_n hx hb d_M_set_163 rfl (lv_at hl 1 rfl) ?_
                        refine lv_iload_n hx hb d_M_set_164 rfl (lv_at hl 2 rfl) ?_
                        refine lv_iload hx hb d_M_set_165 (lv_at hl 0 rfl) ?_
                        refine gw_ci (gc_M_114 (As := [.int (nI k), .int r36]) (rest := []) hF hT (c_M_keepClosed m0 mR mE mD hN1 hN5 (u := k) (by omega) (z := r36)) ⟨(Nat.le_of_ble_eq_true rfl), (Nat.le_of_ble_eq_true rfl)⟩ rfl rfl hK hN hP hD m0 rfl hl.1 rfl (Nat.le_of_ble_eq_true rfl) d_M_set_167 ⟨(Nat.le_of_ble_eq_true rfl), (Nat.le_of_ble_eq_true rfl)⟩) hD hS hA (fun r44 w H locs hw hP hD hS => ?_)
                        obtain ⟨hw, hf⟩ := hw
                        obtain ⟨Rr44, Er44, h_r44, mR, mE⟩ := lm_kcW hw
                        have m0 := hf.at m0 (by omega)
                        have mD := hf.at mD (by omega)
                        have mO := hf.at mO (by omega)
                        have mM := hf.at mM (by omega)
                        have mP := hf.at mP (by omega)
                        have mA := hf.at mA (by omega)
                        have mB := hf.at mB (by omega)
                        have mC := hf.at mC (by omega)
                        have mL := hf.at mL (by omega)
                        have hfr := hfr.in hf (by omega) (by omega)
                        exact gw_iret hx hb hr hlocks hK hP hD hS (Nat.le_of_ble_eq_true rfl) (Nat.le_of_ble_eq_true rfl) d_M_set_170 ⟨⟨_, _, _, Or.inr (Or.inr ⟨k, k1, hk, ek, hk1, hk15, ek1, hq_z, hq_v, Or.inr ⟨hE56, _, _, h_r36, Or.inr ⟨lm_oall hoY (gb_t e_r41 c42), rfl, h_r44⟩⟩⟩), ⟨_, _, _, _, m0, mR, mE, mD, mO, mM, mP, mA, mB, mC, mL⟩⟩, hfr⟩
                      · have c43 : ¬ (0 ≤ 0) := fun z => c43 ((nI_leI (a := 0) (b := 0) (by omega) (by omega)).mpr z)
                        exfalso; omega
                    · refine lv_iconst (v := nI 3) hx hb d_M_set_144 (by decide) ?_
                      refine lv_goto (tgt := 149) hx hb d_M_set_145 (by decide) ?_
                      refine gp_M_48 hF hT hK hP hD hS (fs1 := [.int (nI 3), .int (nI N), .ref (A 1), .ref (A 2), .ref (A 3), .ref (A 4), .ref (A 5), .ref (A 6), .int (nI nm), .ref (A 7), .ref (A 8), .ref (A 9), .ref (A 10)]) m0 rfl rfl (Nat.le_of_ble_eq_true rfl) rfl d_M_set_149 (fun w H locs m0 hf hP hD hS => ?_)
                      have mR := hf.at mR (by omega)
                      have mE := hf.at mE (by omega)
                      have mD := hf.at mD (by omega)
                      have mO := hf.at mO (by omega)
                      have mM := hf.at mM (by omega)
                      have mP := hf.at mP (by omega)
                      have mA := hf.at mA (by omega)
                      have mB := hf.at mB (by omega)
                      have mC := hf.at mC (by omega)
                      have mL := hf.at mL (by omega)
                      have hfr := hfr.in hf (by omega) (by omega)
                      refine lv_aload_n hx hb d_M_set_152 rfl (lv_at hl 1 rfl) ?_
                      refine gf_M_48 hF hT hK hP m0 rfl d_M_set_153 ?_
                      refine lv_if_le (tgt := 163) hx hb d_M_set_156 (by decide) (fun c45 => ?_) (fun c45 => ?_)
                      · have c45 := (nI_leI (a := 3) (b := 0) (by omega) (by omega)).mp c45
                        exfalso; omega
                      · have c45 : ¬ (3 ≤ 0) := fun z => c45 ((nI_leI (a := 3) (b := 0) (by omega) (by omega)).mpr z)
                        refine lv_iconst (v := nI 0) hx hb d_M_set_159 (by decide) ?_
                        refine lv_goto (tgt := 170) hx hb d_M_set_160 (by decide) ?_
                        exact gw_iret hx hb hr hlocks hK hP hD hS (Nat.le_of_ble_eq_true rfl) (Nat.le_of_ble_eq_true rfl) d_M_set_170 ⟨⟨_, _, _, Or.inr (Or.inr ⟨k, k1, hk, ek, hk1, hk15, ek1, hq_z, hq_v, Or.inr ⟨hE56, _, _, h_r36, Or.inl ⟨c38, lm_oall hoY (gb_f e_r41 c42), rfl, rfl, rfl, rfl⟩⟩⟩), ⟨_, _, _, _, m0, mR, mE, mD, mO, mM, mP, mA, mB, mC, mL⟩⟩, hfr⟩
                · refine lv_aload_n hx hb d_M_set_80 rfl (lv_at hl 0 rfl) ?_
                  refine lv_iload_n hx hb d_M_set_81 rfl (lv_at hl 2 rfl) ?_
                  have mg_93 : ∀ (H : Heap) (locs : List Loc), va_P D classes w H → va_D (va_A ws sz) w → va_S (va_A ws sz) s.heap H locs → W p l e ({ frames := 4, cells := 0, slots := 0, locals := 71 } : Room) s m ([.ref (A 0), .int x, .int y, .int z, .long v] : List Value).toArray below meth c H locs 0 0 (MQ below (va_Qi (fun r w => (∃ th' R' E', lm_setO N R Em x y z v o th' r R' E' ∧ mS cJ cI cZ w b A N th' nm R' E' Pt nA nB nC) ∧ gF b (b + 11) ws w) (gw_B D classes (gT cJ cI cZ cS) ws sz) (va_A ws sz)) ([.ref (A 0), .int x, .int y, .int z, .long v] : List Value).toArray s 0 0 (va_A ws sz)) (F0 m 93 ls [.int (lm_ls (nI k1) z), .int (nI k1), .ref (A 0)]) := by
                    intro H locs hP hD hS
                    refine lv_lload hx hb d_M_set_93 (lv_at hl 4 rfl) ?_
                    refine gw_cv (gc_M_135 (As := [.int (nI k1), .int (lm_ls (nI k1) z), .long v]) (rest := []) hF hT (c_M_turn m0 mD mO hN1 hN5 hag56 (x := k1) hk1 hk15) ⟨(Nat.le_of_ble_eq_true rfl), (Nat.le_of_ble_eq_true rfl)⟩ rfl rfl hK hN hP hD m0 rfl hl.1 rfl (Nat.le_of_ble_eq_true rfl) d_M_set_95 ⟨(Nat.le_of_ble_eq_true rfl), (Nat.le_of_ble_eq_true rfl)⟩) hD hS hA (fun w H locs hw hP hD hS => ?_)
                    obtain ⟨⟨F46, OF46, mD, mO, ag47⟩, hf⟩ := hw
                    have m0 := hf.at m0 (by omega)
                    have mR := hf.at mR (by omega)
                    have mE := hf.at mE (by omega)
                    have mM := hf.at mM (by omega)
                    have mP := hf.at mP (by omega)
                    have mA := hf.at mA (by omega)
                    have mB := hf.at mB (by omega)
                    have mC := hf.at mC (by omega)
                    have mL := hf.at mL (by omega)
                    have hfr := hfr.in hf (by omega) (by omega)
                    refine lv_goto (tgt := 125) hx hb d_M_set_98 (by decide) ?_
                    refine lv_aload_n hx hb d_M_set_125 rfl (lv_at hl 0 rfl) ?_
                    refine gw_ci (gc_M_69 (As := []) (rest := []) hF hT (c_M_close m0 mD hN1 hN5 ag47 (by have h9 := hc k k1 hk ek hk1 hk15 ek1 hq_z hq_v hE56; unfold lm_setM at h9; rw [if_neg c15, if_pos c29] at h9; exact h9)) ⟨(Nat.le_of_ble_eq_true rfl), (Nat.le_of_ble_eq_true rfl)⟩ rfl rfl hK hN hP hD m0 rfl hl.1 rfl (Nat.le_of_ble_eq_true rfl) d_M_set_126 ⟨(Nat.le_of_ble_eq_true rfl), (Nat.le_of_ble_eq_true rfl)⟩) hD hS hA (fun r48 w H locs hw hP hD hS => ?_)
                    obtain ⟨⟨F49, mD, h_r48⟩, hf⟩ := hw
                    have m0 := hf.at m0 (by omega)
                    have mR := hf.at mR (by omega)
                    have mE := hf.at mE (by omega)
                    have mO := hf.at mO (by omega)
                    have mM := hf.at mM (by omega)
                    have mP := hf.at mP (by omega)
                    have mA := hf.at mA (by omega)
                    have mB := hf.at mB (by omega)
                    have mC := hf.at mC (by omega)
                    have mL := hf.at mL (by omega)
                    have hfr := hfr.in hf (by omega) (by omega)
                    refine lv_istore (lv' := [(6, .int r48), (0, .ref (A 0)), (1, .int (nI k)), (2, .int (nI k1)), (3, .int z), (4, .long v)]) hx hb d_M_set_129 hl (by decide) rfl (fun ls hl => ?_)
                    refine lv_aload_n hx hb d_M_set_131 rfl (lv_at hl 1 rfl) ?_
                    refine lv_iload hx hb d_M_set_132 (lv_at hl 0 rfl) ?_
                    refine lv_if_eq (tgt := 148) hx hb d_M_set_134 (by decide) (fun c50 => ?_) (fun c50 => ?_)
                    · refine lv_iconst (v := nI 0) hx hb d_M_set_148 (by decide) ?_
                      refine gp_M_48 hF hT hK hP hD hS (fs1 := [.int (nI 0), .int (nI N), .ref (A 1), .ref (A 2), .ref (A 3), .ref (A 4), .ref (A 5), .ref (A 6), .int (nI nm), .ref (A 7), .ref (A 8), .ref (A 9), .ref (A 10)]) m0 rfl rfl (Nat.le_of_ble_eq_true rfl) rfl d_M_set_149 (fun w H locs m0 hf hP hD hS => ?_)
                      have mR := hf.at mR (by omega)
                      have mE := hf.at mE (by omega)
                      have mD := hf.at mD (by omega)
                      have mO := hf.at mO (by omega)
                      have mM := hf.at mM (by omega)
                      have mP := hf.at mP (by omega)
                      have mA := hf.at mA (by omega)
                      have mB := hf.at mB (by omega)
                      have mC := hf.at mC (by omega)
                      have mL := hf.at mL (by omega)
                      have hfr := hfr.in hf (by omega) (by omega)
                      refine lv_aload_n hx hb d_M_set_152 rfl (lv_at hl 1 rfl) ?_
                      refine gf_M_48 hF hT hK hP m0 rfl d_M_set_153 ?_
                      refine lv_if_le (tgt := 163) hx hb d_M_set_156 (by decide) (fun c51 => ?_) (fun c51 => ?_)
                      · have c51 := (nI_leI (a := 0) (b := 0) (by omega) (by omega)).mp c51
                        refine lv_aload_n hx hb d_M_set_163 rfl (lv_at hl 1 rfl) ?_
                        refine lv_iload_n hx hb d_M_set_164 rfl (lv_at hl 2 rfl) ?_
                        refine lv_iload hx hb d_M_set_165 (lv_at hl 0 rfl) ?_
                        refine gw_ci (gc_M_114 (As := [.int (nI k), .int r48]) (rest := []) hF hT (c_M_keepClosed m0 mR mE mD hN1 hN5 (u := k) (by omega) (z := r48)) ⟨(Nat.le_of_ble_eq_true rfl), (Nat.le_of_ble_eq_true rfl)⟩ rfl rfl hK hN hP hD m0 rfl hl.1 rfl (Nat.le_of_ble_eq_true rfl) d_M_set_167 ⟨(Nat.le_of_ble_eq_true rfl), (Nat.le_of_ble_eq_true rfl)⟩) hD hS hA (fun r52 w H locs hw hP hD hS => ?_)
                        obtain ⟨hw, hf⟩ := hw
                        obtain ⟨Rr52, Er52, h_r52, mR, mE⟩ := lm_kcW hw
                        have m0 := hf.at m0 (by omega)
                        have mD := hf.at mD (by omega)
                        have mO := hf.at mO (by omega)
                        have mM := hf.at mM (by omega)
                        have mP := hf.at mP (by omega)
                        have mA := hf.at mA (by omega)
                        have mB := hf.at mB (by omega)
                        have mC := hf.at mC (by omega)
                        have mL := hf.at mL (by omega)
                        have hfr := hfr.in hf (by omega) (by omega)
                        exact gw_iret hx hb hr hlocks hK hP hD hS (Nat.le_of_ble_eq_true rfl) (Nat.le_of_ble_eq_true rfl) d_M_set_170 ⟨⟨_, _, _, Or.inr (Or.inr ⟨k, k1, hk, ek, hk1, hk15, ek1, hq_z, hq_v, Or.inr ⟨hE56, _, _, h_r48, Or.inr ⟨lm_onone (h_r48.n c50), rfl, h_r52⟩⟩⟩), ⟨_, _, _, _, m0, mR, mE, mD, mO, mM, mP, mA, mB, mC, mL⟩⟩, hfr⟩
                      · have c51 : ¬ (0 ≤ 0) := fun z => c51 ((nI_leI (a := 0) (b := 0) (by omega) (by omega)).mpr z)
                        exfalso; omega
                    · obtain ⟨_, Y, hoY, hag⟩ := h_r48.y c50
                      refine lv_aload_n hx hb d_M_set_137 rfl (lv_at hl 1 rfl) ?_
                      refine gw_ci0 (gc_M_101 (As := []) (rest := [.ref (A 0)]) hF hT (c_M_isFar m0 mD hN1 hN5 hag) ⟨(Nat.le_of_ble_eq_true rfl), (Nat.le_of_ble_eq_true rfl)⟩ rfl rfl hK hN hP hD m0 rfl hl.1 rfl (Nat.le_of_ble_eq_true rfl) d_M_set_138 ⟨(Nat.le_of_ble_eq_true rfl), (Nat.le_of_ble_eq_true rfl)⟩) hD hS hA (fun r53 H locs e_r53 hP hD hS => ?_)
                      refine lv_if_eq (tgt := 148) hx hb d_M_set_141 (by decide) (fun c54 => ?_) (fun c54 => ?_)
                      · refine lv_iconst (v := nI 0) hx hb d_M_set_148 (by decide) ?_
                        refine gp_M_48 hF hT hK hP hD hS (fs1 := [.int (nI 0), .int (nI N), .ref (A 1), .ref (A 2), .ref (A 3), .ref (A 4), .ref (A 5), .ref (A 6), .int (nI nm), .ref (A 7), .ref (A 8), .ref (A 9), .ref (A 10)]) m0 rfl rfl (Nat.le_of_ble_eq_true rfl) rfl d_M_set_149 (fun w H locs m0 hf hP hD hS => ?_)
                        have mR := hf.at mR (by omega)
                        have mE := hf.at mE (by omega)
                        have mD := hf.at mD (by omega)
                        have mO := hf.at mO (by omega)
                        have mM := hf.at mM (by omega)
                        have mP := hf.at mP (by omega)
                        have mA := hf.at mA (by omega)
                        have mB := hf.at mB (by omega)
                        have mC := hf.at mC (by omega)
                        have mL := hf.at mL (by omega)
                        have hfr := hfr.in hf (by omega) (by omega)
                        refine lv_aload_n hx hb d_M_set_152 rfl (lv_at hl 1 rfl) ?_
                        refine gf_M_48 hF hT hK hP m0 rfl d_M_set_153 ?_
                        refine lv_if_le (tgt := 163) hx hb d_M_set_156 (by decide) (fun c55 => ?_) (fun c55 => ?_)
                        · have c55 := (nI_leI (a := 0) (b := 0) (by omega) (by omega)).mp c55
                          refine lv_aload_n hx hb d_M_set_163 rfl (lv_at hl 1 rfl) ?_
                          refine lv_iload_n hx hb d_M_set_164 rfl (lv_at hl 2 rfl) ?_
                          refine lv_iload hx hb d_M_set_165 (lv_at hl 0 rfl) ?_
                          refine gw_ci (gc_M_114 (As := [.int (nI k), .int r48]) (rest := []) hF hT (c_M_keepClosed m0 mR mE mD hN1 hN5 (u := k) (by omega) (z := r48)) ⟨(Nat.le_of_ble_eq_true rfl), (Nat.le_of_ble_eq_true rfl)⟩ rfl rfl hK hN hP hD m0 rfl hl.1 rfl (Nat.le_of_ble_eq_true rfl) d_M_set_167 ⟨(Nat.le_of_ble_eq_true rfl), (Nat.le_of_ble_eq_true rfl)⟩) hD hS hA (fun r56 w H locs hw hP hD hS => ?_)
                          obtain ⟨hw, hf⟩ := hw
                          obtain ⟨Rr56, Er56, h_r56, mR, mE⟩ := lm_kcW hw
                          have m0 := hf.at m0 (by omega)
                          have mD := hf.at mD (by omega)
                          have mO := hf.at mO (by omega)
                          have mM := hf.at mM (by omega)
                          have mP := hf.at mP (by omega)
                          have mA := hf.at mA (by omega)
                          have mB := hf.at mB (by omega)
                          have mC := hf.at mC (by omega)
                          have mL := hf.at mL (by omega)
                          have hfr := hfr.in hf (by omega) (by omega)
                          exact gw_iret hx hb hr hlocks hK hP hD hS (Nat.le_of_ble_eq_true rfl) (Nat.le_of_ble_eq_true rfl) d_M_set_170 ⟨⟨_, _, _, Or.inr (Or.inr ⟨k, k1, hk, ek, hk1, hk15, ek1, hq_z, hq_v, Or.inr ⟨hE56, _, _, h_r48, Or.inr ⟨lm_oall hoY (gb_t e_r53 c54), rfl, h_r56⟩⟩⟩), ⟨_, _, _, _, m0, mR, mE, mD, mO, mM, mP, mA, mB, mC, mL⟩⟩, hfr⟩
                        · have c55 : ¬ (0 ≤ 0) := fun z => c55 ((nI_leI (a := 0) (b := 0) (by omega) (by omega)).mpr z)
                          exfalso; omega
                      · refine lv_iconst (v := nI 3) hx hb d_M_set_144 (by decide) ?_
                        refine lv_goto (tgt := 149) hx hb d_M_set_145 (by decide) ?_
                        refine gp_M_48 hF hT hK hP hD hS (fs1 := [.int (nI 3), .int (nI N), .ref (A 1), .ref (A 2), .ref (A 3), .ref (A 4), .ref (A 5), .ref (A 6), .int (nI nm), .ref (A 7), .ref (A 8), .ref (A 9), .ref (A 10)]) m0 rfl rfl (Nat.le_of_ble_eq_true rfl) rfl d_M_set_149 (fun w H locs m0 hf hP hD hS => ?_)
                        have mR := hf.at mR (by omega)
                        have mE := hf.at mE (by omega)
                        have mD := hf.at mD (by omega)
                        have mO := hf.at mO (by omega)
                        have mM := hf.at mM (by omega)
                        have mP := hf.at mP (by omega)
                        have mA := hf.at mA (by omega)
                        have mB := hf.at mB (by omega)
                        have mC := hf.at mC (by omega)
                        have mL := hf.at mL (by omega)
                        have hfr := hfr.in hf (by omega) (by omega)
                        refine lv_aload_n hx hb d_M_set_152 rfl (lv_at hl 1 rfl) ?_
                        refine gf_M_48 hF hT hK hP m0 rfl d_M_set_153 ?_
                        refine lv_if_le (tgt := 163) hx hb d_M_set_156 (by decide) (fun c57 => ?_) (fun c57 => ?_)
                        · have c57 := (nI_leI (a := 3) (b := 0) (by omega) (by omega)).mp c57
                          exfalso; omega
                        · have c57 : ¬ (3 ≤ 0) := fun z => c57 ((nI_leI (a := 3) (b := 0) (by omega) (by omega)).mpr z)
                          refine lv_iconst (v := nI 0) hx hb d_M_set_159 (by decide) ?_
                          refine lv_goto (tgt := 170) hx hb d_M_set_160 (by decide) ?_
                          exact gw_iret hx hb hr hlocks hK hP hD hS (Nat.le_of_ble_eq_true rfl) (Nat.le_of_ble_eq_true rfl) d_M_set_170 ⟨⟨_, _, _, Or.inr (Or.inr ⟨k, k1, hk, ek, hk1, hk15, ek1, hq_z, hq_v, Or.inr ⟨hE56, _, _, h_r48, Or.inl ⟨c50, lm_oall hoY (gb_f e_r53 c54), rfl, rfl, rfl, rfl⟩⟩⟩), ⟨_, _, _, _, m0, mR, mE, mD, mO, mM, mP, mA, mB, mC, mL⟩⟩, hfr⟩
                  refine lv_iload_n hx hb d_M_set_82 rfl (lv_at hl 3 rfl) ?_
                  refine lv_iload_n hx hb d_M_set_83 rfl (lv_at hl 2 rfl) ?_
                  refine lv_ineg hx hb d_M_set_84 ?_
                  refine lv_icmp_ne (tgt := 92) hx hb d_M_set_85 (by decide) (fun c58 => ?_) (fun c58 => ?_)
                  · exact absurd c29 c58
                  · refine lv_iconst (v := nI 1) hx hb d_M_set_88 (by decide) ?_
                    refine lv_goto (tgt := 93) hx hb d_M_set_89 (by decide) ?_
                    exact gx_i (y := lm_ls (nI k1) z) (by unfold lm_ls; rw [if_pos c58]) (mg_93 _ _ hP hD hS)
            · have hE56 := h_r12.n c14
              refine lv_aload_n hx hb d_M_set_62 rfl (lv_at hl 0 rfl) ?_
              refine lv_iload_n hx hb d_M_set_63 rfl (lv_at hl 1 rfl) ?_
              refine lv_iconst (v := nI 0) hx hb d_M_set_64 (by decide) ?_
              refine gw_ci (gc_M_114 (As := [.int (nI k), .int (nI 0)]) (rest := []) hF hT (c_M_keepClosed m0 mR mE mD hN1 hN5 (u := k) (by omega) (z := nI 0)) ⟨(Nat.le_of_ble_eq_true rfl), (Nat.le_of_ble_eq_true rfl)⟩ rfl rfl hK hN hP hD m0 rfl hl.1 rfl (Nat.le_of_ble_eq_true rfl) d_M_set_65 ⟨(Nat.le_of_ble_eq_true rfl), (Nat.le_of_ble_eq_true rfl)⟩) hD hS hA (fun r59 w H locs hw hP hD hS => ?_)
              obtain ⟨hw, hf⟩ := hw
              obtain ⟨Rr59, Er59, h_r59, mR, mE⟩ := lm_kcW hw
              have m0 := hf.at m0 (by omega)
              have mD := hf.at mD (by omega)
              have mO := hf.at mO (by omega)
              have mM := hf.at mM (by omega)
              have mP := hf.at mP (by omega)
              have mA := hf.at mA (by omega)
              have mB := hf.at mB (by omega)
              have mC := hf.at mC (by omega)
              have mL := hf.at mL (by omega)
              have hfr := hfr.in hf (by omega) (by omega)
              exact gw_iret hx hb hr hlocks hK hP hD hS (Nat.le_of_ble_eq_true rfl) (Nat.le_of_ble_eq_true rfl) d_M_set_68 ⟨⟨_, _, _, Or.inr (Or.inr ⟨k, k1, hk, ek, hk1, hk15, ek1, hq_z, hq_v, Or.inl ⟨hE56, rfl, _, h_r59⟩⟩), ⟨_, _, _, _, m0, mR, mE, mD, mO, mM, mP, mA, mB, mC, mL⟩⟩, hfr⟩
          · have c11 : ¬ (0 ≤ 0) := fun z => c11 ((nI_leI (a := 0) (b := 0) (by omega) (by omega)).mpr z)
            exfalso; omega
        · refine lv_iconst (v := nI 2) hx hb d_M_set_37 (by decide) ?_
          refine lv_goto (tgt := 42) hx hb d_M_set_38 (by decide) ?_
          refine gp_M_48 hF hT hK hP hD hS (fs1 := [.int (nI 2), .int (nI N), .ref (A 1), .ref (A 2), .ref (A 3), .ref (A 4), .ref (A 5), .ref (A 6), .int (nI nm), .ref (A 7), .ref (A 8), .ref (A 9), .ref (A 10)]) m0 rfl rfl (Nat.le_of_ble_eq_true rfl) rfl d_M_set_42 (fun w H locs m0 hf hP hD hS => ?_)
          have mR := hf.at mR (by omega)
          have mE := hf.at mE (by omega)
          have mD := hf.at mD (by omega)
          have mO := hf.at mO (by omega)
          have mM := hf.at mM (by omega)
          have mP := hf.at mP (by omega)
          have mA := hf.at mA (by omega)
          have mB := hf.at mB (by omega)
          have mC := hf.at mC (by omega)
          have mL := hf.at mL (by omega)
          have hfr := hfr.in hf (by omega) (by omega)
          refine lv_aload_n hx hb d_M_set_45 rfl (lv_at hl 0 rfl) ?_
          refine gf_M_48 hF hT hK hP m0 rfl d_M_set_46 ?_
          refine lv_if_le (tgt := 54) hx hb d_M_set_49 (by decide) (fun c60 => ?_) (fun c60 => ?_)
          · have c60 := (nI_leI (a := 2) (b := 0) (by omega) (by omega)).mp c60
            exfalso; omega
          · have c60 : ¬ (2 ≤ 0) := fun z => c60 ((nI_leI (a := 2) (b := 0) (by omega) (by omega)).mpr z)
            refine lv_iconst (v := nI 0) hx hb d_M_set_52 (by decide) ?_
            exact gw_iret hx hb hr hlocks hK hP hD hS (Nat.le_of_ble_eq_true rfl) (Nat.le_of_ble_eq_true rfl) d_M_set_53 ⟨⟨_, _, _, Or.inr (Or.inl ⟨⟨hq_x, hq_y, hq_z⟩, gb_t e_r9 c10, rfl, rfl, rfl⟩), ⟨_, _, _, _, m0, mR, mE, mD, mO, mM, mP, mA, mB, mC, mL⟩⟩, hfr⟩
      · refine lv_iconst (v := nI 1) hx hb d_M_set_25 (by decide) ?_
        refine lv_goto (tgt := 42) hx hb d_M_set_26 (by decide) ?_
        refine gp_M_48 hF hT hK hP hD hS (fs1 := [.int (nI 1), .int (nI N), .ref (A 1), .ref (A 2), .ref (A 3), .ref (A 4), .ref (A 5), .ref (A 6), .int (nI nm), .ref (A 7), .ref (A 8), .ref (A 9), .ref (A 10)]) m0 rfl rfl (Nat.le_of_ble_eq_true rfl) rfl d_M_set_42 (fun w H locs m0 hf hP hD hS => ?_)
        have mR := hf.at mR (by omega)
        have mE := hf.at mE (by omega)
        have mD := hf.at mD (by omega)
        have mO := hf.at mO (by omega)
        have mM := hf.at mM (by omega)
        have mP := hf.at mP (by omega)
        have mA := hf.at mA (by omega)
        have mB := hf.at mB (by omega)
        have mC := hf.at mC (by omega)
        have mL := hf.at mL (by omega)
        have hfr := hfr.in hf (by omega) (by omega)
        refine lv_aload_n hx hb d_M_set_45 rfl (lv_at hl 0 rfl) ?_
        refine gf_M_48 hF hT hK hP m0 rfl d_M_set_46 ?_
        refine lv_if_le (tgt := 54) hx hb d_M_set_49 (by decide) (fun c61 => ?_) (fun c61 => ?_)
        · have c61 := (nI_leI (a := 1) (b := 0) (by omega) (by omega)).mp c61
          exfalso; omega
        · have c61 : ¬ (1 ≤ 0) := fun z => c61 ((nI_leI (a := 1) (b := 0) (by omega) (by omega)).mpr z)
          refine lv_iconst (v := nI 0) hx hb d_M_set_52 (by decide) ?_
          exact gw_iret hx hb hr hlocks hK hP hD hS (Nat.le_of_ble_eq_true rfl) (Nat.le_of_ble_eq_true rfl) d_M_set_53 ⟨⟨_, _, _, Or.inl ⟨fun q => gb_t e_r7 c8 q.2.2, rfl, rfl, rfl⟩, ⟨_, _, _, _, m0, mR, mE, mD, mO, mM, mP, mA, mB, mC, mL⟩⟩, hfr⟩

set_option maxHeartbeats 4000000 in
set_option maxRecDepth 100000 in
theorem c_M_forget {l : Launch} {D : va_G} {cJ cI cZ cS : ClassId} {ws : va_W} {sz : Nat} {b N nm : Nat} {A : Nat → Nat} {th : Int32} {R Pt nC : Nat → Int64} {Em nA nB : Nat → Int32} (hM : mS cJ cI cZ ws b A N th nm R Em Pt nA nB nC) (hN1 : 1 ≤ N) (hN5 : N ≤ 5) {CF : Nat → Nat → Nat → Int64} (hF1 : lm_F N R Em CF) {o : Option (Nat → Nat → Int64)} {x y : Int32} (hc : ∀ k k1, k < 8 → x = nI k → 1 ≤ k1 → k1 ≤ N → y = nI k1 → Em k = 0 → lm_Cl N (lm_dropM (CF k) k1) o) : Met l y_M_forget w_M_forget ({ frames := 4, cells := 0, slots := 0, locals := 71 } : Room) (gw_Pc D classes (gT cJ cI cZ cS) [.ref (A 0), .int x, .int y] ws sz) (va_Qi (fun r w => (∃ th' R' E', lm_forO N R Em x y o th' r R' E' ∧ mS cJ cI cZ w b A N th' nm R' E' Pt nA nB nC) ∧ gF b (b + 11) ws w) (gw_B D classes (gT cJ cI cZ cS) ws sz) (va_A ws sz)) 0 0 (va_A ws sz) := by
  refine gw_head (by decide) (Nat.le_of_ble_eq_true rfl) (fun p e s m below meth c hsz hx hb hr hlocks hml hown hnm hts hK hN hP hD hS hA ls hl => ?_)
  have hown : s.vm.findClass R_M = some m.cls := hown
  have hT : ∀ w ∈ wG, w ∈ Cond.code y_M_forget b_M_forget 3 (some .int) :: wG := gd_t _
  have hF : CallFix p m c b_M_forget 3 s ([.ref (A 0), .int x, .int y] : List Value).toArray (Cond.code y_M_forget b_M_forget 3 (some .int) :: wG) R_M := ⟨hx, hb, hml, hown, hts⟩
  have hl : lv_has ls 3 [(0, .ref (A 0)), (1, .int x), (2, .int y)] := hl
  obtain ⟨D0, O, Md, Lf, m0, mR, mE, mD, mO, mM, mP, mA, mB, mC, mL⟩ := hM
  have hfr : gF b (b + 11) ws ws := gF.rf
  refine lv_aload_n hx hb d_M_forget_0 rfl (lv_at hl 0 rfl) ?_
  refine lv_aload_n hx hb d_M_forget_1 rfl (lv_at hl 0 rfl) ?_
  refine lv_iload_n hx hb d_M_forget_2 rfl (lv_at hl 1 rfl) ?_
  refine gw_ci0 (gc_M_83 (As := [.int x]) (rest := [.ref (A 0)]) hF hT (c_M_isShape m0 hN1 hN5) ⟨(Nat.le_of_ble_eq_true rfl), (Nat.le_of_ble_eq_true rfl)⟩ rfl rfl hK hN hP hD m0 rfl hl.1 rfl (Nat.le_of_ble_eq_true rfl) d_M_forget_3 ⟨(Nat.le_of_ble_eq_true rfl), (Nat.le_of_ble_eq_true rfl)⟩) hD hS hA (fun r1 H locs e_r1 hP hD hS => ?_)
  refine lv_if_eq (tgt := 21) hx hb d_M_forget_6 (by decide) (fun c2 => ?_) (fun c2 => ?_)
  · refine lv_iconst (v := nI 1) hx hb d_M_forget_21 (by decide) ?_
    refine gp_M_48 hF hT hK hP hD hS (fs1 := [.int (nI 1), .int (nI N), .ref (A 1), .ref (A 2), .ref (A 3), .ref (A 4), .ref (A 5), .ref (A 6), .int (nI nm), .ref (A 7), .ref (A 8), .ref (A 9), .ref (A 10)]) m0 rfl rfl (Nat.le_of_ble_eq_true rfl) rfl d_M_forget_22 (fun w H locs m0 hf hP hD hS => ?_)
    have mR := hf.at mR (by omega)
    have mE := hf.at mE (by omega)
    have mD := hf.at mD (by omega)
    have mO := hf.at mO (by omega)
    have mM := hf.at mM (by omega)
    have mP := hf.at mP (by omega)
    have mA := hf.at mA (by omega)
    have mB := hf.at mB (by omega)
    have mC := hf.at mC (by omega)
    have mL := hf.at mL (by omega)
    have hfr := hfr.in hf (by omega) (by omega)
    refine lv_aload_n hx hb d_M_forget_25 rfl (lv_at hl 0 rfl) ?_
    refine gf_M_48 hF hT hK hP m0 rfl d_M_forget_26 ?_
    refine lv_if_le (tgt := 34) hx hb d_M_forget_29 (by decide) (fun c3 => ?_) (fun c3 => ?_)
    · have c3 := (nI_leI (a := 1) (b := 0) (by omega) (by omega)).mp c3
      exfalso; omega
    · have c3 : ¬ (1 ≤ 0) := fun z => c3 ((nI_leI (a := 1) (b := 0) (by omega) (by omega)).mpr z)
      refine lv_iconst (v := nI 0) hx hb d_M_forget_32 (by decide) ?_
      exact gw_iret hx hb hr hlocks hK hP hD hS (Nat.le_of_ble_eq_true rfl) (Nat.le_of_ble_eq_true rfl) d_M_forget_33 ⟨⟨_, _, _, Or.inl ⟨fun q => gb_t e_r1 c2 q.1, rfl, rfl, rfl⟩, ⟨_, _, _, _, m0, mR, mE, mD, mO, mM, mP, mA, mB, mC, mL⟩⟩, hfr⟩
  · have hq_x := gb_f e_r1 c2
    obtain ⟨k, hk, ek⟩ := hq_x.k
    rw [ek] at hl
    refine lv_aload_n hx hb d_M_forget_9 rfl (lv_at hl 0 rfl) ?_
    refine lv_iload_n hx hb d_M_forget_10 rfl (lv_at hl 2 rfl) ?_
    refine gw_ci0 (gc_M_132 (As := [.int y]) (rest := [.ref (A 0)]) hF hT (c_M_isName m0 hN1 hN5) ⟨(Nat.le_of_ble_eq_true rfl), (Nat.le_of_ble_eq_true rfl)⟩ rfl rfl hK hN hP hD m0 rfl hl.1 rfl (Nat.le_of_ble_eq_true rfl) d_M_forget_11 ⟨(Nat.le_of_ble_eq_true rfl), (Nat.le_of_ble_eq_true rfl)⟩) hD hS hA (fun r4 H locs e_r4 hP hD hS => ?_)
    refine lv_if_eq (tgt := 21) hx hb d_M_forget_14 (by decide) (fun c5 => ?_) (fun c5 => ?_)
    · refine lv_iconst (v := nI 1) hx hb d_M_forget_21 (by decide) ?_
      refine gp_M_48 hF hT hK hP hD hS (fs1 := [.int (nI 1), .int (nI N), .ref (A 1), .ref (A 2), .ref (A 3), .ref (A 4), .ref (A 5), .ref (A 6), .int (nI nm), .ref (A 7), .ref (A 8), .ref (A 9), .ref (A 10)]) m0 rfl rfl (Nat.le_of_ble_eq_true rfl) rfl d_M_forget_22 (fun w H locs m0 hf hP hD hS => ?_)
      have mR := hf.at mR (by omega)
      have mE := hf.at mE (by omega)
      have mD := hf.at mD (by omega)
      have mO := hf.at mO (by omega)
      have mM := hf.at mM (by omega)
      have mP := hf.at mP (by omega)
      have mA := hf.at mA (by omega)
      have mB := hf.at mB (by omega)
      have mC := hf.at mC (by omega)
      have mL := hf.at mL (by omega)
      have hfr := hfr.in hf (by omega) (by omega)
      refine lv_aload_n hx hb d_M_forget_25 rfl (lv_at hl 0 rfl) ?_
      refine gf_M_48 hF hT hK hP m0 rfl d_M_forget_26 ?_
      refine lv_if_le (tgt := 34) hx hb d_M_forget_29 (by decide) (fun c6 => ?_) (fun c6 => ?_)
      · have c6 := (nI_leI (a := 1) (b := 0) (by omega) (by omega)).mp c6
        exfalso; omega
      · have c6 : ¬ (1 ≤ 0) := fun z => c6 ((nI_leI (a := 1) (b := 0) (by omega) (by omega)).mpr z)
        refine lv_iconst (v := nI 0) hx hb d_M_forget_32 (by decide) ?_
        exact gw_iret hx hb hr hlocks hK hP hD hS (Nat.le_of_ble_eq_true rfl) (Nat.le_of_ble_eq_true rfl) d_M_forget_33 ⟨⟨_, _, _, Or.inl ⟨fun q => gb_t e_r4 c5 q.2, rfl, rfl, rfl⟩, ⟨_, _, _, _, m0, mR, mE, mD, mO, mM, mP, mA, mB, mC, mL⟩⟩, hfr⟩
    · have hq_y := gb_f e_r4 c5
      obtain ⟨k1, hk1, hk15, ek1⟩ := hq_y.k hN5
      have ht_y := hq_y.tm hN5
      rw [ek1] at hl ht_y
      refine lv_iconst (v := nI 0) hx hb d_M_forget_17 (by decide) ?_
      refine lv_goto (tgt := 22) hx hb d_M_forget_18 (by decide) ?_
      refine gp_M_48 hF hT hK hP hD hS (fs1 := [.int (nI 0), .int (nI N), .ref (A 1), .ref (A 2), .ref (A 3), .ref (A 4), .ref (A 5), .ref (A 6), .int (nI nm), .ref (A 7), .ref (A 8), .ref (A 9), .ref (A 10)]) m0 rfl rfl (Nat.le_of_ble_eq_true rfl) rfl d_M_forget_22 (fun w H locs m0 hf hP hD hS => ?_)
      have mR := hf.at mR (by omega)
      have mE := hf.at mE (by omega)
      have mD := hf.at mD (by omega)
      have mO := hf.at mO (by omega)
      have mM := hf.at mM (by omega)
      have mP := hf.at mP (by omega)
      have mA := hf.at mA (by omega)
      have mB := hf.at mB (by omega)
      have mC := hf.at mC (by omega)
      have mL := hf.at mL (by omega)
      have hfr := hfr.in hf (by omega) (by omega)
      refine lv_aload_n hx hb d_M_forget_25 rfl (lv_at hl 0 rfl) ?_
      refine gf_M_48 hF hT hK hP m0 rfl d_M_forget_26 ?_
      refine lv_if_le (tgt := 34) hx hb d_M_forget_29 (by decide) (fun c7 => ?_) (fun c7 => ?_)
      · have c7 := (nI_leI (a := 0) (b := 0) (by omega) (by omega)).mp c7
        refine lv_aload_n hx hb d_M_forget_34 rfl (lv_at hl 0 rfl) ?_
        refine lv_iload_n hx hb d_M_forget_35 rfl (lv_at hl 1 rfl) ?_
        refine gw_ci (gc_M_98 (As := [.int (nI k)]) (rest := []) hF hT (c_M_closeShape m0 mR mE mD hN1 hN5 (u := k) (by omega) (hF1 k hk)) ⟨(Nat.le_of_ble_eq_true rfl), (Nat.le_of_ble_eq_true rfl)⟩ rfl rfl hK hN hP hD m0 rfl hl.1 rfl (Nat.le_of_ble_eq_true rfl) d_M_forget_36 ⟨(Nat.le_of_ble_eq_true rfl), (Nat.le_of_ble_eq_true rfl)⟩) hD hS hA (fun r8 w H locs hw hP hD hS => ?_)
        obtain ⟨⟨F9, mD, h_r8⟩, hf⟩ := hw
        have m0 := hf.at m0 (by omega)
        have mR := hf.at mR (by omega)
        have mE := hf.at mE (by omega)
        have mO := hf.at mO (by omega)
        have mM := hf.at mM (by omega)
        have mP := hf.at mP (by omega)
        have mA := hf.at mA (by omega)
        have mB := hf.at mB (by omega)
        have mC := hf.at mC (by omega)
        have mL := hf.at mL (by omega)
        have hfr := hfr.in hf (by omega) (by omega)
        refine lv_if_ne (tgt := 49) hx hb d_M_forget_39 (by decide) (fun c10 => ?_) (fun c10 => ?_)
        · obtain ⟨hE36, _, hag36⟩ := h_r8.y c10
          refine lv_aload_n hx hb d_M_forget_49 rfl (lv_at hl 0 rfl) ?_
          refine lv_iload_n hx hb d_M_forget_50 rfl (lv_at hl 2 rfl) ?_
          refine gw_cv (gc_M_139 (As := [.int (nI k1)]) (rest := []) hF hT (c_M_drop m0 mD hN1 hN5 hag36 (x := k1) hk1 hk15) ⟨(Nat.le_of_ble_eq_true rfl), (Nat.le_of_ble_eq_true rfl)⟩ rfl rfl hK hN hP hD m0 rfl hl.1 rfl (Nat.le_of_ble_eq_true rfl) d_M_forget_51 ⟨(Nat.le_of_ble_eq_true rfl), (Nat.le_of_ble_eq_true rfl)⟩) hD hS hA (fun w H locs hw hP hD hS => ?_)
          obtain ⟨⟨F11, mD, ag12⟩, hf⟩ := hw
          have m0 := hf.at m0 (by omega)
          have mR := hf.at mR (by omega)
          have mE := hf.at mE (by omega)
          have mO := hf.at mO (by omega)
          have mM := hf.at mM (by omega)
          have mP := hf.at mP (by omega)
          have mA := hf.at mA (by omega)
          have mB := hf.at mB (by omega)
          have mC := hf.at mC (by omega)
          have mL := hf.at mL (by omega)
          have hfr := hfr.in hf (by omega) (by omega)
          refine lv_aload_n hx hb d_M_forget_54 rfl (lv_at hl 0 rfl) ?_
          refine lv_iload_n hx hb d_M_forget_55 rfl (lv_at hl 1 rfl) ?_
          refine lv_aload_n hx hb d_M_forget_56 rfl (lv_at hl 0 rfl) ?_
          refine gw_ci (gc_M_69 (As := []) (rest := [.int (nI k), .ref (A 0)]) hF hT (c_M_close m0 mD hN1 hN5 ag12 (hc k k1 hk ek hk1 hk15 ek1 hE36)) ⟨(Nat.le_of_ble_eq_true rfl), (Nat.le_of_ble_eq_true rfl)⟩ rfl rfl hK hN hP hD m0 rfl hl.1 rfl (Nat.le_of_ble_eq_true rfl) d_M_forget_57 ⟨(Nat.le_of_ble_eq_true rfl), (Nat.le_of_ble_eq_true rfl)⟩) hD hS hA (fun r13 w H locs hw hP hD hS => ?_)
          obtain ⟨⟨F14, mD, h_r13⟩, hf⟩ := hw
          have m0 := hf.at m0 (by omega)
          have mR := hf.at mR (by omega)
          have mE := hf.at mE (by omega)
          have mO := hf.at mO (by omega)
          have mM := hf.at mM (by omega)
          have mP := hf.at mP (by omega)
          have mA := hf.at mA (by omega)
          have mB := hf.at mB (by omega)
          have mC := hf.at mC (by omega)
          have mL := hf.at mL (by omega)
          have hfr := hfr.in hf (by omega) (by omega)
          refine gw_ci (gc_M_114 (As := [.int (nI k), .int r13]) (rest := []) hF hT (c_M_keepClosed m0 mR mE mD hN1 hN5 (u := k) (by omega) (z := r13)) ⟨(Nat.le_of_ble_eq_true rfl), (Nat.le_of_ble_eq_true rfl)⟩ rfl rfl hK hN hP hD m0 rfl hl.1 rfl (Nat.le_of_ble_eq_true rfl) d_M_forget_60 ⟨(Nat.le_of_ble_eq_true rfl), (Nat.le_of_ble_eq_true rfl)⟩) hD hS hA (fun r15 w H locs hw hP hD hS => ?_)
          obtain ⟨hw, hf⟩ := hw
          obtain ⟨Rr15, Er15, h_r15, mR, mE⟩ := lm_kcW hw
          have m0 := hf.at m0 (by omega)
          have mD := hf.at mD (by omega)
          have mO := hf.at mO (by omega)
          have mM := hf.at mM (by omega)
          have mP := hf.at mP (by omega)
          have mA := hf.at mA (by omega)
          have mB := hf.at mB (by omega)
          have mC := hf.at mC (by omega)
          have mL := hf.at mL (by omega)
          have hfr := hfr.in hf (by omega) (by omega)
          exact gw_iret hx hb hr hlocks hK hP hD hS (Nat.le_of_ble_eq_true rfl) (Nat.le_of_ble_eq_true rfl) d_M_forget_63 ⟨⟨_, _, _, Or.inr ⟨k, k1, hk, ek, hk1, hk15, ek1, rfl, Or.inr ⟨hE36, _, _, h_r13, h_r15⟩⟩, ⟨_, _, _, _, m0, mR, mE, mD, mO, mM, mP, mA, mB, mC, mL⟩⟩, hfr⟩
        · have hE36 := h_r8.n c10
          refine lv_aload_n hx hb d_M_forget_42 rfl (lv_at hl 0 rfl) ?_
          refine lv_iload_n hx hb d_M_forget_43 rfl (lv_at hl 1 rfl) ?_
          refine lv_iconst (v := nI 0) hx hb d_M_forget_44 (by decide) ?_
          refine gw_ci (gc_M_114 (As := [.int (nI k), .int (nI 0)]) (rest := []) hF hT (c_M_keepClosed m0 mR mE mD hN1 hN5 (u := k) (by omega) (z := nI 0)) ⟨(Nat.le_of_ble_eq_true rfl), (Nat.le_of_ble_eq_true rfl)⟩ rfl rfl hK hN hP hD m0 rfl hl.1 rfl (Nat.le_of_ble_eq_true rfl) d_M_forget_45 ⟨(Nat.le_of_ble_eq_true rfl), (Nat.le_of_ble_eq_true rfl)⟩) hD hS hA (fun r16 w H locs hw hP hD hS => ?_)
          obtain ⟨hw, hf⟩ := hw
          obtain ⟨Rr16, Er16, h_r16, mR, mE⟩ := lm_kcW hw
          have m0 := hf.at m0 (by omega)
          have mD := hf.at mD (by omega)
          have mO := hf.at mO (by omega)
          have mM := hf.at mM (by omega)
          have mP := hf.at mP (by omega)
          have mA := hf.at mA (by omega)
          have mB := hf.at mB (by omega)
          have mC := hf.at mC (by omega)
          have mL := hf.at mL (by omega)
          have hfr := hfr.in hf (by omega) (by omega)
          exact gw_iret hx hb hr hlocks hK hP hD hS (Nat.le_of_ble_eq_true rfl) (Nat.le_of_ble_eq_true rfl) d_M_forget_48 ⟨⟨_, _, _, Or.inr ⟨k, k1, hk, ek, hk1, hk15, ek1, rfl, Or.inl ⟨hE36, _, h_r16⟩⟩, ⟨_, _, _, _, m0, mR, mE, mD, mO, mM, mP, mA, mB, mC, mL⟩⟩, hfr⟩
      · have c7 : ¬ (0 ≤ 0) := fun z => c7 ((nI_leI (a := 0) (b := 0) (by omega) (by omega)).mpr z)
        exfalso; omega

set_option maxHeartbeats 4000000 in
set_option maxRecDepth 100000 in
theorem c_M_within {l : Launch} {D : va_G} {cJ cI cZ cS : ClassId} {ws : va_W} {sz : Nat} {b N nm : Nat} {A : Nat → Nat} {th : Int32} {R Pt nC : Nat → Int64} {Em nA nB : Nat → Int32} (hM : mS cJ cI cZ ws b A N th nm R Em Pt nA nB nC) (hN1 : 1 ≤ N) (hN5 : N ≤ 5) {CF : Nat → Nat → Nat → Int64} (hF1 : lm_F N R Em CF) {x y : Int32} : Met l y_M_within w_M_within ({ frames := 4, cells := 0, slots := 0, locals := 71 } : Room) (gw_Pc D classes (gT cJ cI cZ cS) [.ref (A 0), .int x, .int y] ws sz) (va_Qi (fun r w => (∃ th', ((¬ (okS x ∧ okS y) ∧ th' = nI 1) ∨ (∃ k1 k2, k1 < 8 ∧ k2 < 8 ∧ x = nI k1 ∧ y = nI k2 ∧ th' = nI 0 ∧ ((¬ Em k1 = 0 ∧ r = nI 1) ∨ (Em k1 = 0 ∧ ∃ F z, lm_ag N F (CF k1) ∧ ((Em k2 = 0 ∧ z = nI 1) ∨ (¬ Em k2 = 0 ∧ z = nI 0)) ∧ r = lm_wtO F R k2 (2 * N) (2 * N) z)))) ∧ mS cJ cI cZ w b A N th' nm R Em Pt nA nB nC) ∧ gF b (b + 11) ws w) (gw_B D classes (gT cJ cI cZ cS) ws sz) (va_A ws sz)) 0 0 (va_A ws sz) := by
  refine gw_head (by decide) (Nat.le_of_ble_eq_true rfl) (fun p e s m below meth c hsz hx hb hr hlocks hml hown hnm hts hK hN hP hD hS hA ls hl => ?_)
  have hown : s.vm.findClass R_M = some m.cls := hown
  have hT : ∀ w ∈ wG, w ∈ Cond.code y_M_within b_M_within 10 (some .boolean) :: wG := gd_t _
  have hF : CallFix p m c b_M_within 10 s ([.ref (A 0), .int x, .int y] : List Value).toArray (Cond.code y_M_within b_M_within 10 (some .boolean) :: wG) R_M := ⟨hx, hb, hml, hown, hts⟩
  have hl : lv_has ls 10 [(0, .ref (A 0)), (1, .int x), (2, .int y)] := hl
  obtain ⟨D0, O, Md, Lf, m0, mR, mE, mD, mO, mM, mP, mA, mB, mC, mL⟩ := hM
  have hfr : gF b (b + 11) ws ws := gF.rf
  refine lv_aload_n hx hb d_M_within_0 rfl (lv_at hl 0 rfl) ?_
  refine lv_aload_n hx hb d_M_within_1 rfl (lv_at hl 0 rfl) ?_
  refine lv_iload_n hx hb d_M_within_2 rfl (lv_at hl 1 rfl) ?_
  refine gw_ci0 (gc_M_83 (As := [.int x]) (rest := [.ref (A 0)]) hF hT (c_M_isShape m0 hN1 hN5) ⟨(Nat.le_of_ble_eq_true rfl), (Nat.le_of_ble_eq_true rfl)⟩ rfl rfl hK hN hP hD m0 rfl hl.1 rfl (Nat.le_of_ble_eq_true rfl) d_M_within_3 ⟨(Nat.le_of_ble_eq_true rfl), (Nat.le_of_ble_eq_true rfl)⟩) hD hS hA (fun r1 H locs e_r1 hP hD hS => ?_)
  refine lv_if_eq (tgt := 21) hx hb d_M_within_6 (by decide) (fun c2 => ?_) (fun c2 => ?_)
  · refine lv_iconst (v := nI 1) hx hb d_M_within_21 (by decide) ?_
    refine gp_M_48 hF hT hK hP hD hS (fs1 := [.int (nI 1), .int (nI N), .ref (A 1), .ref (A 2), .ref (A 3), .ref (A 4), .ref (A 5), .ref (A 6), .int (nI nm), .ref (A 7), .ref (A 8), .ref (A 9), .ref (A 10)]) m0 rfl rfl (Nat.le_of_ble_eq_true rfl) rfl d_M_within_22 (fun w H locs m0 hf hP hD hS => ?_)
    have mR := hf.at mR (by omega)
    have mE := hf.at mE (by omega)
    have mD := hf.at mD (by omega)
    have mO := hf.at mO (by omega)
    have mM := hf.at mM (by omega)
    have mP := hf.at mP (by omega)
    have mA := hf.at mA (by omega)
    have mB := hf.at mB (by omega)
    have mC := hf.at mC (by omega)
    have mL := hf.at mL (by omega)
    have hfr := hfr.in hf (by omega) (by omega)
    refine lv_aload_n hx hb d_M_within_25 rfl (lv_at hl 0 rfl) ?_
    refine gf_M_48 hF hT hK hP m0 rfl d_M_within_26 ?_
    refine lv_if_le (tgt := 34) hx hb d_M_within_29 (by decide) (fun c3 => ?_) (fun c3 => ?_)
    · have c3 := (nI_leI (a := 1) (b := 0) (by omega) (by omega)).mp c3
      exfalso; omega
    · have c3 : ¬ (1 ≤ 0) := fun z => c3 ((nI_leI (a := 1) (b := 0) (by omega) (by omega)).mpr z)
      refine lv_iconst (v := nI 0) hx hb d_M_within_32 (by decide) ?_
      exact gw_zret hx hb hr hlocks hK hP hD hS (Nat.le_of_ble_eq_true rfl) (Nat.le_of_ble_eq_true rfl) rfl d_M_within_33 ⟨⟨_, Or.inl ⟨fun q => gb_t e_r1 c2 q.1, rfl⟩, ⟨_, _, _, _, m0, mR, mE, mD, mO, mM, mP, mA, mB, mC, mL⟩⟩, hfr⟩
  · have hq_x := gb_f e_r1 c2
    obtain ⟨k1, hk1, ek1⟩ := hq_x.k
    rw [ek1] at hl
    refine lv_aload_n hx hb d_M_within_9 rfl (lv_at hl 0 rfl) ?_
    refine lv_iload_n hx hb d_M_within_10 rfl (lv_at hl 2 rfl) ?_
    refine gw_ci0 (gc_M_83 (As := [.int y]) (rest := [.ref (A 0)]) hF hT (c_M_isShape m0 hN1 hN5) ⟨(Nat.le_of_ble_eq_true rfl), (Nat.le_of_ble_eq_true rfl)⟩ rfl rfl hK hN hP hD m0 rfl hl.1 rfl (Nat.le_of_ble_eq_true rfl) d_M_within_11 ⟨(Nat.le_of_ble_eq_true rfl), (Nat.le_of_ble_eq_true rfl)⟩) hD hS hA (fun r4 H locs e_r4 hP hD hS => ?_)
    refine lv_if_eq (tgt := 21) hx hb d_M_within_14 (by decide) (fun c5 => ?_) (fun c5 => ?_)
    · refine lv_iconst (v := nI 1) hx hb d_M_within_21 (by decide) ?_
      refine gp_M_48 hF hT hK hP hD hS (fs1 := [.int (nI 1), .int (nI N), .ref (A 1), .ref (A 2), .ref (A 3), .ref (A 4), .ref (A 5), .ref (A 6), .int (nI nm), .ref (A 7), .ref (A 8), .ref (A 9), .ref (A 10)]) m0 rfl rfl (Nat.le_of_ble_eq_true rfl) rfl d_M_within_22 (fun w H locs m0 hf hP hD hS => ?_)
      have mR := hf.at mR (by omega)
      have mE := hf.at mE (by omega)
      have mD := hf.at mD (by omega)
      have mO := hf.at mO (by omega)
      have mM := hf.at mM (by omega)
      have mP := hf.at mP (by omega)
      have mA := hf.at mA (by omega)
      have mB := hf.at mB (by omega)
      have mC := hf.at mC (by omega)
      have mL := hf.at mL (by omega)
      have hfr := hfr.in hf (by omega) (by omega)
      refine lv_aload_n hx hb d_M_within_25 rfl (lv_at hl 0 rfl) ?_
      refine gf_M_48 hF hT hK hP m0 rfl d_M_within_26 ?_
      refine lv_if_le (tgt := 34) hx hb d_M_within_29 (by decide) (fun c6 => ?_) (fun c6 => ?_)
      · have c6 := (nI_leI (a := 1) (b := 0) (by omega) (by omega)).mp c6
        exfalso; omega
      · have c6 : ¬ (1 ≤ 0) := fun z => c6 ((nI_leI (a := 1) (b := 0) (by omega) (by omega)).mpr z)
        refine lv_iconst (v := nI 0) hx hb d_M_within_32 (by decide) ?_
        exact gw_zret hx hb hr hlocks hK hP hD hS (Nat.le_of_ble_eq_true rfl) (Nat.le_of_ble_eq_true rfl) rfl d_M_within_33 ⟨⟨_, Or.inl ⟨fun q => gb_t e_r4 c5 q.2, rfl⟩, ⟨_, _, _, _, m0, mR, mE, mD, mO, mM, mP, mA, mB, mC, mL⟩⟩, hfr⟩
    · have hq_y := gb_f e_r4 c5
      obtain ⟨k2, hk2, ek2⟩ := hq_y.k
      rw [ek2] at hl
      refine lv_iconst (v := nI 0) hx hb d_M_within_17 (by decide) ?_
      refine lv_goto (tgt := 22) hx hb d_M_within_18 (by decide) ?_
      refine gp_M_48 hF hT hK hP hD hS (fs1 := [.int (nI 0), .int (nI N), .ref (A 1), .ref (A 2), .ref (A 3), .ref (A 4), .ref (A 5), .ref (A 6), .int (nI nm), .ref (A 7), .ref (A 8), .ref (A 9), .ref (A 10)]) m0 rfl rfl (Nat.le_of_ble_eq_true rfl) rfl d_M_within_22 (fun w H locs m0 hf hP hD hS => ?_)
      have mR := hf.at mR (by omega)
      have mE := hf.at mE (by omega)
      have mD := hf.at mD (by omega)
      have mO := hf.at mO (by omega)
      have mM := hf.at mM (by omega)
      have mP := hf.at mP (by omega)
      have mA := hf.at mA (by omega)
      have mB := hf.at mB (by omega)
      have mC := hf.at mC (by omega)
      have mL := hf.at mL (by omega)
      have hfr := hfr.in hf (by omega) (by omega)
      refine lv_aload_n hx hb d_M_within_25 rfl (lv_at hl 0 rfl) ?_
      refine gf_M_48 hF hT hK hP m0 rfl d_M_within_26 ?_
      refine lv_if_le (tgt := 34) hx hb d_M_within_29 (by decide) (fun c7 => ?_) (fun c7 => ?_)
      · have c7 := (nI_leI (a := 0) (b := 0) (by omega) (by omega)).mp c7
        refine lv_aload_n hx hb d_M_within_34 rfl (lv_at hl 0 rfl) ?_
        refine lv_iload_n hx hb d_M_within_35 rfl (lv_at hl 1 rfl) ?_
        refine gw_ci (gc_M_98 (As := [.int (nI k1)]) (rest := []) hF hT (c_M_closeShape m0 mR mE mD hN1 hN5 (u := k1) (by omega) (hF1 k1 hk1)) ⟨(Nat.le_of_ble_eq_true rfl), (Nat.le_of_ble_eq_true rfl)⟩ rfl rfl hK hN hP hD m0 rfl hl.1 rfl (Nat.le_of_ble_eq_true rfl) d_M_within_36 ⟨(Nat.le_of_ble_eq_true rfl), (Nat.le_of_ble_eq_true rfl)⟩) hD hS hA (fun r8 w H locs hw hP hD hS => ?_)
        obtain ⟨⟨F9, mD, h_r8⟩, hf⟩ := hw
        have m0 := hf.at m0 (by omega)
        have mR := hf.at mR (by omega)
        have mE := hf.at mE (by omega)
        have mO := hf.at mO (by omega)
        have mM := hf.at mM (by omega)
        have mP := hf.at mP (by omega)
        have mA := hf.at mA (by omega)
        have mB := hf.at mB (by omega)
        have mC := hf.at mC (by omega)
        have mL := hf.at mL (by omega)
        have hfr := hfr.in hf (by omega) (by omega)
        refine lv_if_ne (tgt := 44) hx hb d_M_within_39 (by decide) (fun c10 => ?_) (fun c10 => ?_)
        · obtain ⟨hE36, _, hag36⟩ := h_r8.y c10
          refine lv_aload_n hx hb d_M_within_44 rfl (lv_at hl 0 rfl) ?_
          refine gf_M_13 hF hT hK hP m0 rfl d_M_within_45 ?_
          refine lv_iload_n hx hb d_M_within_48 rfl (lv_at hl 2 rfl) ?_
          refine g_zald (t0 := 2) (k := k2) hx hb hK hP mE rfl (by omega) (by omega) d_M_within_49 ?_
          refine lv_if_ne (tgt := 57) hx hb d_M_within_50 (by decide) (fun c11 => ?_) (fun c11 => ?_)
          · refine lv_iconst (v := nI 0) hx hb d_M_within_57 (by decide) ?_
            refine lv_istore_n (lv' := [(3, .int (nI 0)), (0, .ref (A 0)), (1, .int (nI k1)), (2, .int (nI k2))]) hx hb d_M_within_58 rfl hl (by decide) rfl (fun ls hl => ?_)
            refine lv_iconst (v := nI 0) hx hb d_M_within_59 (by decide) ?_
            refine lv_istore (lv' := [(4, .int (nI 0)), (3, .int (nI 0)), (0, .ref (A 0)), (1, .int (nI k1)), (2, .int (nI k2))]) hx hb d_M_within_60 hl (by decide) rfl (fun ls hl => ?_)
            have lp_62 : ∀ (dd i : Nat), i + dd = (2 * N) → ∀ (w : va_W) (H : Heap) (locs : List Loc) (ls : Array Slot), w[b]? = some (A 0, .inr (3, [.int (nI 0), .int (nI N), .ref (A 1), .ref (A 2), .ref (A 3), .ref (A 4), .ref (A 5), .ref (A 6), .int (nI nm), .ref (A 7), .ref (A 8), .ref (A 9), .ref (A 10)])) → w[b + 1]? = some (A 1, .inl (cJ, 800, .inr (.inl R))) → w[b + 2]? = some (A 2, .inl (cZ, 8, .inl Em)) → w[b + 3]? = some (A 3, .inl (cJ, 100, .inr (.inl F9))) → w[b + 4]? = some (A 4, .inl (cJ, 100, .inr (.inl O))) → w[b + 5]? = some (A 5, .inl (cJ, 100, .inr (.inl Md))) → w[b + 6]? = some (A 6, .inl (cJ, 6, .inr (.inl Pt))) → w[b + 7]? = some (A 7, .inl (cI, 60, .inl nA)) → w[b + 8]? = some (A 8, .inl (cI, 60, .inl nB)) → w[b + 9]? = some (A 9, .inl (cJ, 60, .inr (.inl nC))) → w[b + 10]? = some (A 10, .inl (cZ, 60, .inl Lf)) → gF b (b + 11) ws w → va_P D classes w H → va_D (va_A ws sz) w → va_S (va_A ws sz) s.heap H locs → lv_has ls 10 [(4, .int (nI i)), (3, .int (lm_wtO F9 R k2 (2 * N) i (nI 0))), (0, .ref (A 0)), (1, .int (nI k1)), (2, .int (nI k2))] → W p l e ({ frames := 4, cells := 0, slots := 0, locals := 71 } : Room) s m ([.ref (A 0), .int x, .int y] : List Value).toArray below meth c H locs 0 0 (MQ below (va_Qi (fun r w => (∃ th', ((¬ (okS x ∧ okS y) ∧ th' = nI 1) ∨ (∃ k1 k2, k1 < 8 ∧ k2 < 8 ∧ x = nI k1 ∧ y = nI k2 ∧ th' = nI 0 ∧ ((¬ Em k1 = 0 ∧ r = nI 1) ∨ (Em k1 = 0 ∧ ∃ F z, lm_ag N F (CF k1) ∧ ((Em k2 = 0 ∧ z = nI 1) ∨ (¬ Em k2 = 0 ∧ z = nI 0)) ∧ r = lm_wtO F R k2 (2 * N) (2 * N) z)))) ∧ mS cJ cI cZ w b A N th' nm R Em Pt nA nB nC) ∧ gF b (b + 11) ws w) (gw_B D classes (gT cJ cI cZ cS) ws sz) (va_A ws sz)) ([.ref (A 0), .int x, .int y] : List Value).toArray s 0 0 (va_A ws sz)) (F0 m 62 ls []) := by
              intro dd
              induction dd with
              | zero =>
                intro i e_i w H locs ls m0 mR mE mD mO mM mP mA mB mC mL hfr hP hD hS hl
                have e0_i : (2 * N) = i := by omega
                subst e0_i
                refine lv_iload hx hb d_M_within_62 (lv_at hl 0 rfl) ?_
                refine lv_iconst (v := nI 2) hx hb d_M_within_64 (by decide) ?_
                refine lv_aload_n hx hb d_M_within_65 rfl (lv_at hl 2 rfl) ?_
                refine gf_M_42 hF hT hK hP m0 rfl d_M_within_66 ?_
                refine lv_imul hx hb d_M_within_69 ?_
                refine gx_i (y := nI (2 * N)) (pk_mul _ _) ?_
                refine lv_icmp_ge (tgt := 177) hx hb d_M_within_70 (by decide) (fun c12 => ?_) (fun c12 => ?_)
                · have c12 := (nI_leI (a := (2 * N)) (b := (2 * N)) (by omega) (by omega)).mp c12
                  refine lv_iload_n hx hb d_M_within_177 rfl (lv_at hl 1 rfl) ?_
                  exact gw_zret hx hb hr hlocks hK hP hD hS (Nat.le_of_ble_eq_true rfl) (Nat.le_of_ble_eq_true rfl) (lm_b_n (lm_wtO_b (Or.inl rfl))) d_M_within_178 ⟨⟨_, Or.inr ⟨k1, k2, hk1, hk2, ek1, ek2, rfl, Or.inr ⟨hE36, _, _, hag36, Or.inr ⟨c11, rfl⟩, rfl⟩⟩, ⟨_, _, _, _, m0, mR, mE, mD, mO, mM, mP, mA, mB, mC, mL⟩⟩, hfr⟩
                · have c12 : ¬ (2 * N ≤ (2 * N)) := fun z => c12 ((nI_leI (a := (2 * N)) (b := (2 * N)) (by omega) (by omega)).mpr z)
                  exfalso; omega
              | succ dd ih_62 =>
                intro i e_i w H locs ls m0 mR mE mD mO mM mP mA mB mC mL hfr hP hD hS hl
                refine lv_iload hx hb d_M_within_62 (lv_at hl 0 rfl) ?_
                refine lv_iconst (v := nI 2) hx hb d_M_within_64 (by decide) ?_
                refine lv_aload_n hx hb d_M_within_65 rfl (lv_at hl 2 rfl) ?_
                refine gf_M_42 hF hT hK hP m0 rfl d_M_within_66 ?_
                refine lv_imul hx hb d_M_within_69 ?_
                refine gx_i (y := nI (2 * N)) (pk_mul _ _) ?_
                refine lv_icmp_ge (tgt := 177) hx hb d_M_within_70 (by decide) (fun c13 => ?_) (fun c13 => ?_)
                · have c13 := (nI_leI (a := (2 * N)) (b := i) (by omega) (by omega)).mp c13
                  exfalso; omega
                · have c13 : ¬ (2 * N ≤ i) := fun z => c13 ((nI_leI (a := (2 * N)) (b := i) (by omega) (by omega)).mpr z)
                  refine lv_iconst (v := nI 0) hx hb d_M_within_73 (by decide) ?_
                  refine lv_istore (lv' := [(5, .int (nI 0)), (4, .int (nI i)), (3, .int (lm_wtO F9 R k2 (2 * N) i (nI 0))), (0, .ref (A 0)), (1, .int (nI k1)), (2, .int (nI k2))]) hx hb d_M_within_74 hl (by decide) rfl (fun ls hl => ?_)
                  have lp_76 : ∀ (dd k : Nat), k + dd = (2 * N) → ∀ (w : va_W) (H : Heap) (locs : List Loc) (ls : Array Slot), w[b]? = some (A 0, .inr (3, [.int (nI 0), .int (nI N), .ref (A 1), .ref (A 2), .ref (A 3), .ref (A 4), .ref (A 5), .ref (A 6), .int (nI nm), .ref (A 7), .ref (A 8), .ref (A 9), .ref (A 10)])) → w[b + 1]? = some (A 1, .inl (cJ, 800, .inr (.inl R))) → w[b + 2]? = some (A 2, .inl (cZ, 8, .inl Em)) → w[b + 3]? = some (A 3, .inl (cJ, 100, .inr (.inl F9))) → w[b + 4]? = some (A 4, .inl (cJ, 100, .inr (.inl O))) → w[b + 5]? = some (A 5, .inl (cJ, 100, .inr (.inl Md))) → w[b + 6]? = some (A 6, .inl (cJ, 6, .inr (.inl Pt))) → w[b + 7]? = some (A 7, .inl (cI, 60, .inl nA)) → w[b + 8]? = some (A 8, .inl (cI, 60, .inl nB)) → w[b + 9]? = some (A 9, .inl (cJ, 60, .inr (.inl nC))) → w[b + 10]? = some (A 10, .inl (cZ, 60, .inl Lf)) → gF b (b + 11) ws w → va_P D classes w H → va_D (va_A ws sz) w → va_S (va_A ws sz) s.heap H locs → lv_has ls 10 [(5, .int (nI k)), (4, .int (nI i)), (3, .int (lm_wtI F9 R k2 i k (lm_wtO F9 R k2 (2 * N) i (nI 0)))), (0, .ref (A 0)), (1, .int (nI k1)), (2, .int (nI k2))] → W p l e ({ frames := 4, cells := 0, slots := 0, locals := 71 } : Room) s m ([.ref (A 0), .int x, .int y] : List Value).toArray below meth c H locs 0 0 (MQ below (va_Qi (fun r w => (∃ th', ((¬ (okS x ∧ okS y) ∧ th' = nI 1) ∨ (∃ k1 k2, k1 < 8 ∧ k2 < 8 ∧ x = nI k1 ∧ y = nI k2 ∧ th' = nI 0 ∧ ((¬ Em k1 = 0 ∧ r = nI 1) ∨ (Em k1 = 0 ∧ ∃ F z, lm_ag N F (CF k1) ∧ ((Em k2 = 0 ∧ z = nI 1) ∨ (¬ Em k2 = 0 ∧ z = nI 0)) ∧ r = lm_wtO F R k2 (2 * N) (2 * N) z)))) ∧ mS cJ cI cZ w b A N th' nm R Em Pt nA nB nC) ∧ gF b (b + 11) ws w) (gw_B D classes (gT cJ cI cZ cS) ws sz) (va_A ws sz)) ([.ref (A 0), .int x, .int y] : List Value).toArray s 0 0 (va_A ws sz)) (F0 m 76 ls []) := by
                    intro dd
                    induction dd with
                    | zero =>
                      intro k e_k w H locs ls m0 mR mE mD mO mM mP mA mB mC mL hfr hP hD hS hl
                      have e0_k : (2 * N) = k := by omega
                      subst e0_k
                      refine lv_iload hx hb d_M_within_76 (lv_at hl 0 rfl) ?_
                      refine lv_iconst (v := nI 2) hx hb d_M_within_78 (by decide) ?_
                      refine lv_aload_n hx hb d_M_within_79 rfl (lv_at hl 3 rfl) ?_
                      refine gf_M_42 hF hT hK hP m0 rfl d_M_within_80 ?_
                      refine lv_imul hx hb d_M_within_83 ?_
                      refine gx_i (y := nI (2 * N)) (pk_mul _ _) ?_
                      refine lv_icmp_ge (tgt := 171) hx hb d_M_within_84 (by decide) (fun c14 => ?_) (fun c14 => ?_)
                      · have c14 := (nI_leI (a := (2 * N)) (b := (2 * N)) (by omega) (by omega)).mp c14
                        refine lv_iinc (v := nI (i + 1)) (lv' := [(4, .int (nI (i + 1))), (5, .int (nI (2 * N))), (3, .int (lm_wtI F9 R k2 i (2 * N) (lm_wtO F9 R k2 (2 * N) i (nI 0)))), (0, .ref (A 0)), (1, .int (nI k1)), (2, .int (nI k2))]) hx hb d_M_within_171 hl (k := 1) rfl (gx_inc _) (by decide) rfl (fun ls hl => ?_)
                        refine lv_goto (tgt := 62) hx hb d_M_within_174 (by decide) ?_
                        exact ih_62 (i + 1) (by omega) _ _ _ _ m0 mR mE mD mO mM mP mA mB mC mL hfr hP hD hS (lv_sub hl [0, 2, 3, 4, 5] rfl)
                      · have c14 : ¬ (2 * N ≤ (2 * N)) := fun z => c14 ((nI_leI (a := (2 * N)) (b := (2 * N)) (by omega) (by omega)).mpr z)
                        exfalso; omega
                    | succ dd ih_76 =>
                      intro k e_k w H locs ls m0 mR mE mD mO mM mP mA mB mC mL hfr hP hD hS hl
                      refine lv_iload hx hb d_M_within_76 (lv_at hl 0 rfl) ?_
                      refine lv_iconst (v := nI 2) hx hb d_M_within_78 (by decide) ?_
                      refine lv_aload_n hx hb d_M_within_79 rfl (lv_at hl 3 rfl) ?_
                      refine gf_M_42 hF hT hK hP m0 rfl d_M_within_80 ?_
                      refine lv_imul hx hb d_M_within_83 ?_
                      refine gx_i (y := nI (2 * N)) (pk_mul _ _) ?_
                      refine lv_icmp_ge (tgt := 171) hx hb d_M_within_84 (by decide) (fun c15 => ?_) (fun c15 => ?_)
                      · have c15 := (nI_leI (a := (2 * N)) (b := k) (by omega) (by omega)).mp c15
                        exfalso; omega
                      · have c15 : ¬ (2 * N ≤ k) := fun z => c15 ((nI_leI (a := (2 * N)) (b := k) (by omega) (by omega)).mpr z)
                        refine lv_aload_n hx hb d_M_within_87 rfl (lv_at hl 3 rfl) ?_
                        refine gf_M_7 hF hT hK hP m0 rfl d_M_within_88 ?_
                        refine lv_bipush (v := nI 100) hx hb d_M_within_91 (by decide) ?_
                        refine lv_iload_n hx hb d_M_within_93 rfl (lv_at hl 5 rfl) ?_
                        refine lv_imul hx hb d_M_within_94 ?_
                        refine gx_i (y := nI (100 * k2)) (pk_mul _ _) ?_
                        refine lv_bipush (v := nI 10) hx hb d_M_within_95 (by decide) ?_
                        refine lv_iload hx hb d_M_within_97 (lv_at hl 1 rfl) ?_
                        refine lv_imul hx hb d_M_within_99 ?_
                        refine gx_i (y := nI (10 * i)) (pk_mul _ _) ?_
                        refine lv_iadd hx hb d_M_within_100 ?_
                        refine gx_i (y := nI ((100 * k2) + (10 * i))) (nI_add _ _) ?_
                        refine lv_iload hx hb d_M_within_101 (lv_at hl 0 rfl) ?_
                        refine lv_iadd hx hb d_M_within_103 ?_
                        refine gx_i (y := nI (((100 * k2) + (10 * i)) + k)) (nI_add _ _) ?_
                        refine g_lald (t0 := 0) (k := ((100 * k2) + (10 * i)) + k) hx hb hK hP mR rfl (by omega) (by omega) d_M_within_104 ?_
                        refine lv_lstore (lv' := [(6, .long (R (((100 * k2) + (10 * i)) + k))), (5, .int (nI k)), (4, .int (nI i)), (3, .int (lm_wtI F9 R k2 i k (lm_wtO F9 R k2 (2 * N) i (nI 0)))), (0, .ref (A 0)), (1, .int (nI k1)), (2, .int (nI k2))]) hx hb d_M_within_105 hl (by decide) rfl (fun ls hl => ?_)
                        have mg_134 : ∀ (H : Heap) (locs : List Loc), va_P D classes w H → va_D (va_A ws sz) w → va_S (va_A ws sz) s.heap H locs → W p l e ({ frames := 4, cells := 0, slots := 0, locals := 71 } : Room) s m ([.ref (A 0), .int x, .int y] : List Value).toArray below meth c H locs 0 0 (MQ below (va_Qi (fun r w => (∃ th', ((¬ (okS x ∧ okS y) ∧ th' = nI 1) ∨ (∃ k1 k2, k1 < 8 ∧ k2 < 8 ∧ x = nI k1 ∧ y = nI k2 ∧ th' = nI 0 ∧ ((¬ Em k1 = 0 ∧ r = nI 1) ∨ (Em k1 = 0 ∧ ∃ F z, lm_ag N F (CF k1) ∧ ((Em k2 = 0 ∧ z = nI 1) ∨ (¬ Em k2 = 0 ∧ z = nI 0)) ∧ r = lm_wtO F R k2 (2 * N) (2 * N) z)))) ∧ mS cJ cI cZ w b A N th' nm R Em Pt nA nB nC) ∧ gF b (b + 11) ws w) (gw_B D classes (gT cJ cI cZ cS) ws sz) (va_A ws sz)) ([.ref (A 0), .int x, .int y] : List Value).toArray s 0 0 (va_A ws sz)) (F0 m 134 ls [.long (lm_db i k (R (100 * k2 + 10 * i + k)))]) := by
                          intro H locs hP hD hS
                          refine lv_lstore (lv' := [(8, .long (lm_db i k (R (100 * k2 + 10 * i + k)))), (6, .long (R (((100 * k2) + (10 * i)) + k))), (5, .int (nI k)), (4, .int (nI i)), (3, .int (lm_wtI F9 R k2 i k (lm_wtO F9 R k2 (2 * N) i (nI 0)))), (0, .ref (A 0)), (1, .int (nI k1)), (2, .int (nI k2))]) hx hb d_M_within_134 hl (by decide) rfl (fun ls hl => ?_)
                          have mg_164 : ∀ (H : Heap) (locs : List Loc), va_P D classes w H → va_D (va_A ws sz) w → va_S (va_A ws sz) s.heap H locs → W p l e ({ frames := 4, cells := 0, slots := 0, locals := 71 } : Room) s m ([.ref (A 0), .int x, .int y] : List Value).toArray below meth c H locs 0 0 (MQ below (va_Qi (fun r w => (∃ th', ((¬ (okS x ∧ okS y) ∧ th' = nI 1) ∨ (∃ k1 k2, k1 < 8 ∧ k2 < 8 ∧ x = nI k1 ∧ y = nI k2 ∧ th' = nI 0 ∧ ((¬ Em k1 = 0 ∧ r = nI 1) ∨ (Em k1 = 0 ∧ ∃ F z, lm_ag N F (CF k1) ∧ ((Em k2 = 0 ∧ z = nI 1) ∨ (¬ Em k2 = 0 ∧ z = nI 0)) ∧ r = lm_wtO F R k2 (2 * N) (2 * N) z)))) ∧ mS cJ cI cZ w b A N th' nm R Em Pt nA nB nC) ∧ gF b (b + 11) ws w) (gw_B D classes (gT cJ cI cZ cS) ws sz) (va_A ws sz)) ([.ref (A 0), .int x, .int y] : List Value).toArray s 0 0 (va_A ws sz)) (F0 m 164 ls [.int (lm_wt (lm_db i k (R (100 * k2 + 10 * i + k)) < F9 (10 * i + k)) (lm_wtI F9 R k2 i k (lm_wtO F9 R k2 (2 * N) i (nI 0))))]) := by
                            intro H locs hP hD hS
                            refine lv_istore_n (lv' := [(3, .int (lm_wt (lm_db i k (R (100 * k2 + 10 * i + k)) < F9 (10 * i + k)) (lm_wtI F9 R k2 i k (lm_wtO F9 R k2 (2 * N) i (nI 0))))), (8, .long (lm_db i k (R (100 * k2 + 10 * i + k)))), (6, .long (R (((100 * k2) + (10 * i)) + k))), (5, .int (nI k)), (4, .int (nI i)), (0, .ref (A 0)), (1, .int (nI k1)), (2, .int (nI k2))]) hx hb d_M_within_164 rfl hl (by decide) rfl (fun ls hl => ?_)
                            refine lv_iinc (v := nI (k + 1)) (lv' := [(5, .int (nI (k + 1))), (3, .int (lm_wt (lm_db i k (R (100 * k2 + 10 * i + k)) < F9 (10 * i + k)) (lm_wtI F9 R k2 i k (lm_wtO F9 R k2 (2 * N) i (nI 0))))), (8, .long (lm_db i k (R (100 * k2 + 10 * i + k)))), (6, .long (R (((100 * k2) + (10 * i)) + k))), (4, .int (nI i)), (0, .ref (A 0)), (1, .int (nI k1)), (2, .int (nI k2))]) hx hb d_M_within_165 hl (k := 3) rfl (gx_inc _) (by decide) rfl (fun ls hl => ?_)
                            refine lv_goto (tgt := 76) hx hb d_M_within_168 (by decide) ?_
                            exact ih_76 (k + 1) (by omega) _ _ _ _ m0 mR mE mD mO mM mP mA mB mC mL hfr hP hD hS (lv_sub hl [0, 4, 1, 5, 6, 7] rfl)
                          refine lv_iload_n hx hb d_M_within_136 rfl (lv_at hl 4 rfl) ?_
                          refine lv_if_eq (tgt := 163) hx hb d_M_within_137 (by decide) (fun c16 => ?_) (fun c16 => ?_)
                          · refine lv_iconst (v := nI 0) hx hb d_M_within_163 (by decide) ?_
                            exact gx_i (y := lm_wt (lm_db i k (R (100 * k2 + 10 * i + k)) < F9 (10 * i + k)) (lm_wtI F9 R k2 i k (lm_wtO F9 R k2 (2 * N) i (nI 0)))) (if_pos c16).symm (mg_164 _ _ hP hD hS)
                          · refine lv_aload_n hx hb d_M_within_140 rfl (lv_at hl 5 rfl) ?_
                            refine gf_M_17 hF hT hK hP m0 rfl d_M_within_141 ?_
                            refine lv_bipush (v := nI 10) hx hb d_M_within_144 (by decide) ?_
                            refine lv_iload hx hb d_M_within_146 (lv_at hl 3 rfl) ?_
                            refine lv_imul hx hb d_M_within_148 ?_
                            refine gx_i (y := nI (10 * i)) (pk_mul _ _) ?_
                            refine lv_iload hx hb d_M_within_149 (lv_at hl 2 rfl) ?_
                            refine lv_iadd hx hb d_M_within_151 ?_
                            refine gx_i (y := nI ((10 * i) + k)) (nI_add _ _) ?_
                            refine g_lald (t0 := 0) (k := (10 * i) + k) hx hb hK hP mD rfl (by omega) (by omega) d_M_within_152 ?_
                            refine lv_lload hx hb d_M_within_153 (lv_at hl 0 rfl) ?_
                            refine gx_lgt (tgt := 163) hx hb d_M_within_155 d_M_within_156 (by decide) (fun c17 => ?_) (fun c17 => ?_)
                            · refine lv_iconst (v := nI 0) hx hb d_M_within_163 (by decide) ?_
                              exact gx_i (y := lm_wt (lm_db i k (R (100 * k2 + 10 * i + k)) < F9 (10 * i + k)) (lm_wtI F9 R k2 i k (lm_wtO F9 R k2 (2 * N) i (nI 0)))) ((if_neg c16).trans (if_pos c17)).symm (mg_164 _ _ hP hD hS)
                            · refine lv_iconst (v := nI 1) hx hb d_M_within_159 (by decide) ?_
                              refine lv_goto (tgt := 164) hx hb d_M_within_160 (by decide) ?_
                              exact gx_i (y := lm_wt (lm_db i k (R (100 * k2 + 10 * i + k)) < F9 (10 * i + k)) (lm_wtI F9 R k2 i k (lm_wtO F9 R k2 (2 * N) i (nI 0)))) ((if_neg c16).trans (if_neg c17)).symm (mg_164 _ _ hP hD hS)
                        refine lv_iload hx hb d_M_within_107 (lv_at hl 2 rfl) ?_
                        refine lv_iload hx hb d_M_within_109 (lv_at hl 1 rfl) ?_
                        refine lv_icmp_ne (tgt := 132) hx hb d_M_within_111 (by decide) (fun c18 => ?_) (fun c18 => ?_)
                        · have c18 : ¬ (i = k) := fun z => c18 ((nI_eq (a := i) (b := k) (by omega) (by omega)).mpr z)
                          refine lv_lload hx hb d_M_within_132 (lv_at hl 0 rfl) ?_
                          exact gx_l (y := lm_db i k (R (100 * k2 + 10 * i + k))) (by unfold lm_db; rw [if_neg c18]) (mg_134 _ _ hP hD hS)
                        · have c18 := (nI_eq (a := i) (b := k) (by omega) (by omega)).mp c18
                          refine lv_lload hx hb d_M_within_114 (lv_at hl 0 rfl) ?_
                          refine lv_ldc2 (v := lr_E) hx hb hown (hts _ (hT _ wm_3_124)) d_M_within_116 ?_
                          refine gx_leq (tgt := 132) hx hb d_M_within_119 d_M_within_120 (by decide) (fun c19 => ?_) (fun c19 => ?_)
                          · refine lv_lload hx hb d_M_within_132 (lv_at hl 0 rfl) ?_
                            exact gx_l (y := lm_db i k (R (100 * k2 + 10 * i + k))) (by unfold lm_db; rw [if_pos c18, if_pos c19]) (mg_134 _ _ hP hD hS)
                          · refine lv_ldc2 (v := (2 : Int64)) hx hb hown (hts _ (hT _ wm_3_202)) d_M_within_123 ?_
                            refine lv_lload hx hb d_M_within_126 (lv_at hl 0 rfl) ?_
                            refine lv_lmul hx hb d_M_within_128 ?_
                            refine lv_goto (tgt := 134) hx hb d_M_within_129 (by decide) ?_
                            exact gx_l (y := lm_db i k (R (100 * k2 + 10 * i + k))) (by unfold lm_db; rw [if_pos c18, if_neg c19]) (mg_134 _ _ hP hD hS)
                  exact lp_76 (2 * N) 0 (by omega) _ _ _ _ m0 mR mE mD mO mM mP mA mB mC mL hfr hP hD hS (lv_sub hl [0, 1, 2, 3, 4, 5] rfl)
            exact lp_62 (2 * N) 0 (by omega) _ _ _ _ m0 mR mE mD mO mM mP mA mB mC mL hfr hP hD hS (lv_sub hl [0, 1, 2, 3, 4] rfl)
          · refine lv_iconst (v := nI 1) hx hb d_M_within_53 (by decide) ?_
            refine lv_goto (tgt := 58) hx hb d_M_within_54 (by decide) ?_
            refine lv_istore_n (lv' := [(3, .int (nI 1)), (0, .ref (A 0)), (1, .int (nI k1)), (2, .int (nI k2))]) hx hb d_M_within_58 rfl hl (by decide) rfl (fun ls hl => ?_)
            refine lv_iconst (v := nI 0) hx hb d_M_within_59 (by decide) ?_
            refine lv_istore (lv' := [(4, .int (nI 0)), (3, .int (nI 1)), (0, .ref (A 0)), (1, .int (nI k1)), (2, .int (nI k2))]) hx hb d_M_within_60 hl (by decide) rfl (fun ls hl => ?_)
            have lp_62 : ∀ (dd i : Nat), i + dd = (2 * N) → ∀ (w : va_W) (H : Heap) (locs : List Loc) (ls : Array Slot), w[b]? = some (A 0, .inr (3, [.int (nI 0), .int (nI N), .ref (A 1), .ref (A 2), .ref (A 3), .ref (A 4), .ref (A 5), .ref (A 6), .int (nI nm), .ref (A 7), .ref (A 8), .ref (A 9), .ref (A 10)])) → w[b + 1]? = some (A 1, .inl (cJ, 800, .inr (.inl R))) → w[b + 2]? = some (A 2, .inl (cZ, 8, .inl Em)) → w[b + 3]? = some (A 3, .inl (cJ, 100, .inr (.inl F9))) → w[b + 4]? = some (A 4, .inl (cJ, 100, .inr (.inl O))) → w[b + 5]? = some (A 5, .inl (cJ, 100, .inr (.inl Md))) → w[b + 6]? = some (A 6, .inl (cJ, 6, .inr (.inl Pt))) → w[b + 7]? = some (A 7, .inl (cI, 60, .inl nA)) → w[b + 8]? = some (A 8, .inl (cI, 60, .inl nB)) → w[b + 9]? = some (A 9, .inl (cJ, 60, .inr (.inl nC))) → w[b + 10]? = some (A 10, .inl (cZ, 60, .inl Lf)) → gF b (b + 11) ws w → va_P D classes w H → va_D (va_A ws sz) w → va_S (va_A ws sz) s.heap H locs → lv_has ls 10 [(4, .int (nI i)), (3, .int (lm_wtO F9 R k2 (2 * N) i (nI 1))), (0, .ref (A 0)), (1, .int (nI k1)), (2, .int (nI k2))] → W p l e ({ frames := 4, cells := 0, slots := 0, locals := 71 } : Room) s m ([.ref (A 0), .int x, .int y] : List Value).toArray below meth c H locs 0 0 (MQ below (va_Qi (fun r w => (∃ th', ((¬ (okS x ∧ okS y) ∧ th' = nI 1) ∨ (∃ k1 k2, k1 < 8 ∧ k2 < 8 ∧ x = nI k1 ∧ y = nI k2 ∧ th' = nI 0 ∧ ((¬ Em k1 = 0 ∧ r = nI 1) ∨ (Em k1 = 0 ∧ ∃ F z, lm_ag N F (CF k1) ∧ ((Em k2 = 0 ∧ z = nI 1) ∨ (¬ Em k2 = 0 ∧ z = nI 0)) ∧ r = lm_wtO F R k2 (2 * N) (2 * N) z)))) ∧ mS cJ cI cZ w b A N th' nm R Em Pt nA nB nC) ∧ gF b (b + 11) ws w) (gw_B D classes (gT cJ cI cZ cS) ws sz) (va_A ws sz)) ([.ref (A 0), .int x, .int y] : List Value).toArray s 0 0 (va_A ws sz)) (F0 m 62 ls []) := by
              intro dd
              induction dd with
              | zero =>
                intro i e_i w H locs ls m0 mR mE mD mO mM mP mA mB mC mL hfr hP hD hS hl
                have e0_i : (2 * N) = i := by omega
                subst e0_i
                refine lv_iload hx hb d_M_within_62 (lv_at hl 0 rfl) ?_
                refine lv_iconst (v := nI 2) hx hb d_M_within_64 (by decide) ?_
                refine lv_aload_n hx hb d_M_within_65 rfl (lv_at hl 2 rfl) ?_
                refine gf_M_42 hF hT hK hP m0 rfl d_M_within_66 ?_
                refine lv_imul hx hb d_M_within_69 ?_
                refine gx_i (y := nI (2 * N)) (pk_mul _ _) ?_
                refine lv_icmp_ge (tgt := 177) hx hb d_M_within_70 (by decide) (fun c20 => ?_) (fun c20 => ?_)
                · have c20 := (nI_leI (a := (2 * N)) (b := (2 * N)) (by omega) (by omega)).mp c20
                  refine lv_iload_n hx hb d_M_within_177 rfl (lv_at hl 1 rfl) ?_
                  exact gw_zret hx hb hr hlocks hK hP hD hS (Nat.le_of_ble_eq_true rfl) (Nat.le_of_ble_eq_true rfl) (lm_b_n (lm_wtO_b (Or.inr rfl))) d_M_within_178 ⟨⟨_, Or.inr ⟨k1, k2, hk1, hk2, ek1, ek2, rfl, Or.inr ⟨hE36, _, _, hag36, Or.inl ⟨c11, rfl⟩, rfl⟩⟩, ⟨_, _, _, _, m0, mR, mE, mD, mO, mM, mP, mA, mB, mC, mL⟩⟩, hfr⟩
                · have c20 : ¬ (2 * N ≤ (2 * N)) := fun z => c20 ((nI_leI (a := (2 * N)) (b := (2 * N)) (by omega) (by omega)).mpr z)
                  exfalso; omega
              | succ dd ih_62 =>
                intro i e_i w H locs ls m0 mR mE mD mO mM mP mA mB mC mL hfr hP hD hS hl
                refine lv_iload hx hb d_M_within_62 (lv_at hl 0 rfl) ?_
                refine lv_iconst (v := nI 2) hx hb d_M_within_64 (by decide) ?_
                refine lv_aload_n hx hb d_M_within_65 rfl (lv_at hl 2 rfl) ?_
                refine gf_M_42 hF hT hK hP m0 rfl d_M_within_66 ?_
                refine lv_imul hx hb d_M_within_69 ?_
                refine gx_i (y := nI (2 * N)) (pk_mul _ _) ?_
                refine lv_icmp_ge (tgt := 177) hx hb d_M_within_70 (by decide) (fun c21 => ?_) (fun c21 => ?_)
                · have c21 := (nI_leI (a := (2 * N)) (b := i) (by omega) (by omega)).mp c21
                  exfalso; omega
                · have c21 : ¬ (2 * N ≤ i) := fun z => c21 ((nI_leI (a := (2 * N)) (b := i) (by omega) (by omega)).mpr z)
                  refine lv_iconst (v := nI 0) hx hb d_M_within_73 (by decide) ?_
                  refine lv_istore (lv' := [(5, .int (nI 0)), (4, .int (nI i)), (3, .int (lm_wtO F9 R k2 (2 * N) i (nI 1))), (0, .ref (A 0)), (1, .int (nI k1)), (2, .int (nI k2))]) hx hb d_M_within_74 hl (by decide) rfl (fun ls hl => ?_)
                  have lp_76 : ∀ (dd k : Nat), k + dd = (2 * N) → ∀ (w : va_W) (H : Heap) (locs : List Loc) (ls : Array Slot), w[b]? = some (A 0, .inr (3, [.int (nI 0), .int (nI N), .ref (A 1), .ref (A 2), .ref (A 3), .ref (A 4), .ref (A 5), .ref (A 6), .int (nI nm), .ref (A 7), .ref (A 8), .ref (A 9), .ref (A 10)])) → w[b + 1]? = some (A 1, .inl (cJ, 800, .inr (.inl R))) → w[b + 2]? = some (A 2, .inl (cZ, 8, .inl Em)) → w[b + 3]? = some (A 3, .inl (cJ, 100, .inr (.inl F9))) → w[b + 4]? = some (A 4, .inl (cJ, 100, .inr (.inl O))) → w[b + 5]? = some (A 5, .inl (cJ, 100, .inr (.inl Md))) → w[b + 6]? = some (A 6, .inl (cJ, 6, .inr (.inl Pt))) → w[b + 7]? = some (A 7, .inl (cI, 60, .inl nA)) → w[b + 8]? = some (A 8, .inl (cI, 60, .inl nB)) → w[b + 9]? = some (A 9, .inl (cJ, 60, .inr (.inl nC))) → w[b + 10]? = some (A 10, .inl (cZ, 60, .inl Lf)) → gF b (b + 11) ws w → va_P D classes w H → va_D (va_A ws sz) w → va_S (va_A ws sz) s.heap H locs → lv_has ls 10 [(5, .int (nI k)), (4, .int (nI i)), (3, .int (lm_wtI F9 R k2 i k (lm_wtO F9 R k2 (2 * N) i (nI 1)))), (0, .ref (A 0)), (1, .int (nI k1)), (2, .int (nI k2))] → W p l e ({ frames := 4, cells := 0, slots := 0, locals := 71 } : Room) s m ([.ref (A 0), .int x, .int y] : List Value).toArray below meth c H locs 0 0 (MQ below (va_Qi (fun r w => (∃ th', ((¬ (okS x ∧ okS y) ∧ th' = nI 1) ∨ (∃ k1 k2, k1 < 8 ∧ k2 < 8 ∧ x = nI k1 ∧ y = nI k2 ∧ th' = nI 0 ∧ ((¬ Em k1 = 0 ∧ r = nI 1) ∨ (Em k1 = 0 ∧ ∃ F z, lm_ag N F (CF k1) ∧ ((Em k2 = 0 ∧ z = nI 1) ∨ (¬ Em k2 = 0 ∧ z = nI 0)) ∧ r = lm_wtO F R k2 (2 * N) (2 * N) z)))) ∧ mS cJ cI cZ w b A N th' nm R Em Pt nA nB nC) ∧ gF b (b + 11) ws w) (gw_B D classes (gT cJ cI cZ cS) ws sz) (va_A ws sz)) ([.ref (A 0), .int x, .int y] : List Value).toArray s 0 0 (va_A ws sz)) (F0 m 76 ls []) := by
                    intro dd
                    induction dd with
                    | zero =>
                      intro k e_k w H locs ls m0 mR mE mD mO mM mP mA mB mC mL hfr hP hD hS hl
                      have e0_k : (2 * N) = k := by omega
                      subst e0_k
                      refine lv_iload hx hb d_M_within_76 (lv_at hl 0 rfl) ?_
                      refine lv_iconst (v := nI 2) hx hb d_M_within_78 (by decide) ?_
                      refine lv_aload_n hx hb d_M_within_79 rfl (lv_at hl 3 rfl) ?_
                      refine gf_M_42 hF hT hK hP m0 rfl d_M_within_80 ?_
                      refine lv_imul hx hb d_M_within_83 ?_
                      refine gx_i (y := nI (2 * N)) (pk_mul _ _) ?_
                      refine lv_icmp_ge (tgt := 171) hx hb d_M_within_84 (by decide) (fun c22 => ?_) (fun c22 => ?_)
                      · have c22 := (nI_leI (a := (2 * N)) (b := (2 * N)) (by omega) (by omega)).mp c22
                        refine lv_iinc (v := nI (i + 1)) (lv' := [(4, .int (nI (i + 1))), (5, .int (nI (2 * N))), (3, .int (lm_wtI F9 R k2 i (2 * N) (lm_wtO F9 R k2 (2 * N) i (nI 1)))), (0, .ref (A 0)), (1, .int (nI k1)), (2, .int (nI k2))]) hx hb d_M_within_171 hl (k := 1) rfl (gx_inc _) (by decide) rfl (fun ls hl => ?_)
                        refine lv_goto (tgt := 62) hx hb d_M_within_174 (by decide) ?_
                        exact ih_62 (i + 1) (by omega) _ _ _ _ m0 mR mE mD mO mM mP mA mB mC mL hfr hP hD hS (lv_sub hl [0, 2, 3, 4, 5] rfl)
                      · have c22 : ¬ (2 * N ≤ (2 * N)) := fun z => c22 ((nI_leI (a := (2 * N)) (b := (2 * N)) (by omega) (by omega)).mpr z)
                        exfalso; omega
                    | succ dd ih_76 =>
                      intro k e_k w H locs ls m0 mR mE mD mO mM mP mA mB mC mL hfr hP hD hS hl
                      refine lv_iload hx hb d_M_within_76 (lv_at hl 0 rfl) ?_
                      refine lv_iconst (v := nI 2) hx hb d_M_within_78 (by decide) ?_
                      refine lv_aload_n hx hb d_M_within_79 rfl (lv_at hl 3 rfl) ?_
                      refine gf_M_42 hF hT hK hP m0 rfl d_M_within_80 ?_
                      refine lv_imul hx hb d_M_within_83 ?_
                      refine gx_i (y := nI (2 * N)) (pk_mul _ _) ?_
                      refine lv_icmp_ge (tgt := 171) hx hb d_M_within_84 (by decide) (fun c23 => ?_) (fun c23 => ?_)
                      · have c23 := (nI_leI (a := (2 * N)) (b := k) (by omega) (by omega)).mp c23
                        exfalso; omega
                      · have c23 : ¬ (2 * N ≤ k) := fun z => c23 ((nI_leI (a := (2 * N)) (b := k) (by omega) (by omega)).mpr z)
                        refine lv_aload_n hx hb d_M_within_87 rfl (lv_at hl 3 rfl) ?_
                        refine gf_M_7 hF hT hK hP m0 rfl d_M_within_88 ?_
                        refine lv_bipush (v := nI 100) hx hb d_M_within_91 (by decide) ?_
                        refine lv_iload_n hx hb d_M_within_93 rfl (lv_at hl 5 rfl) ?_
                        refine lv_imul hx hb d_M_within_94 ?_
                        refine gx_i (y := nI (100 * k2)) (pk_mul _ _) ?_
                        refine lv_bipush (v := nI 10) hx hb d_M_within_95 (by decide) ?_
                        refine lv_iload hx hb d_M_within_97 (lv_at hl 1 rfl) ?_
                        refine lv_imul hx hb d_M_within_99 ?_
                        refine gx_i (y := nI (10 * i)) (pk_mul _ _) ?_
                        refine lv_iadd hx hb d_M_within_100 ?_
                        refine gx_i (y := nI ((100 * k2) + (10 * i))) (nI_add _ _) ?_
                        refine lv_iload hx hb d_M_within_101 (lv_at hl 0 rfl) ?_
                        refine lv_iadd hx hb d_M_within_103 ?_
                        refine gx_i (y := nI (((100 * k2) + (10 * i)) + k)) (nI_add _ _) ?_
                        refine g_lald (t0 := 0) (k := ((100 * k2) + (10 * i)) + k) hx hb hK hP mR rfl (by omega) (by omega) d_M_within_104 ?_
                        refine lv_lstore (lv' := [(6, .long (R (((100 * k2) + (10 * i)) + k))), (5, .int (nI k)), (4, .int (nI i)), (3, .int (lm_wtI F9 R k2 i k (lm_wtO F9 R k2 (2 * N) i (nI 1)))), (0, .ref (A 0)), (1, .int (nI k1)), (2, .int (nI k2))]) hx hb d_M_within_105 hl (by decide) rfl (fun ls hl => ?_)
                        have mg_134 : ∀ (H : Heap) (locs : List Loc), va_P D classes w H → va_D (va_A ws sz) w → va_S (va_A ws sz) s.heap H locs → W p l e ({ frames := 4, cells := 0, slots := 0, locals := 71 } : Room) s m ([.ref (A 0), .int x, .int y] : List Value).toArray below meth c H locs 0 0 (MQ below (va_Qi (fun r w => (∃ th', ((¬ (okS x ∧ okS y) ∧ th' = nI 1) ∨ (∃ k1 k2, k1 < 8 ∧ k2 < 8 ∧ x = nI k1 ∧ y = nI k2 ∧ th' = nI 0 ∧ ((¬ Em k1 = 0 ∧ r = nI 1) ∨ (Em k1 = 0 ∧ ∃ F z, lm_ag N F (CF k1) ∧ ((Em k2 = 0 ∧ z = nI 1) ∨ (¬ Em k2 = 0 ∧ z = nI 0)) ∧ r = lm_wtO F R k2 (2 * N) (2 * N) z)))) ∧ mS cJ cI cZ w b A N th' nm R Em Pt nA nB nC) ∧ gF b (b + 11) ws w) (gw_B D classes (gT cJ cI cZ cS) ws sz) (va_A ws sz)) ([.ref (A 0), .int x, .int y] : List Value).toArray s 0 0 (va_A ws sz)) (F0 m 134 ls [.long (lm_db i k (R (100 * k2 + 10 * i + k)))]) := by
                          intro H locs hP hD hS
                          refine lv_lstore (lv' := [(8, .long (lm_db i k (R (100 * k2 + 10 * i + k)))), (6, .long (R (((100 * k2) + (10 * i)) + k))), (5, .int (nI k)), (4, .int (nI i)), (3, .int (lm_wtI F9 R k2 i k (lm_wtO F9 R k2 (2 * N) i (nI 1)))), (0, .ref (A 0)), (1, .int (nI k1)), (2, .int (nI k2))]) hx hb d_M_within_134 hl (by decide) rfl (fun ls hl => ?_)
                          have mg_164 : ∀ (H : Heap) (locs : List Loc), va_P D classes w H → va_D (va_A ws sz) w → va_S (va_A ws sz) s.heap H locs → W p l e ({ frames := 4, cells := 0, slots := 0, locals := 71 } : Room) s m ([.ref (A 0), .int x, .int y] : List Value).toArray below meth c H locs 0 0 (MQ below (va_Qi (fun r w => (∃ th', ((¬ (okS x ∧ okS y) ∧ th' = nI 1) ∨ (∃ k1 k2, k1 < 8 ∧ k2 < 8 ∧ x = nI k1 ∧ y = nI k2 ∧ th' = nI 0 ∧ ((¬ Em k1 = 0 ∧ r = nI 1) ∨ (Em k1 = 0 ∧ ∃ F z, lm_ag N F (CF k1) ∧ ((Em k2 = 0 ∧ z = nI 1) ∨ (¬ Em k2 = 0 ∧ z = nI 0)) ∧ r = lm_wtO F R k2 (2 * N) (2 * N) z)))) ∧ mS cJ cI cZ w b A N th' nm R Em Pt nA nB nC) ∧ gF b (b + 11) ws w) (gw_B D classes (gT cJ cI cZ cS) ws sz) (va_A ws sz)) ([.ref (A 0), .int x, .int y] : List Value).toArray s 0 0 (va_A ws sz)) (F0 m 164 ls [.int (lm_wt (lm_db i k (R (100 * k2 + 10 * i + k)) < F9 (10 * i + k)) (lm_wtI F9 R k2 i k (lm_wtO F9 R k2 (2 * N) i (nI 1))))]) := by
                            intro H locs hP hD hS
                            refine lv_istore_n (lv' := [(3, .int (lm_wt (lm_db i k (R (100 * k2 + 10 * i + k)) < F9 (10 * i + k)) (lm_wtI F9 R k2 i k (lm_wtO F9 R k2 (2 * N) i (nI 1))))), (8, .long (lm_db i k (R (100 * k2 + 10 * i + k)))), (6, .long (R (((100 * k2) + (10 * i)) + k))), (5, .int (nI k)), (4, .int (nI i)), (0, .ref (A 0)), (1, .int (nI k1)), (2, .int (nI k2))]) hx hb d_M_within_164 rfl hl (by decide) rfl (fun ls hl => ?_)
                            refine lv_iinc (v := nI (k + 1)) (lv' := [(5, .int (nI (k + 1))), (3, .int (lm_wt (lm_db i k (R (100 * k2 + 10 * i + k)) < F9 (10 * i + k)) (lm_wtI F9 R k2 i k (lm_wtO F9 R k2 (2 * N) i (nI 1))))), (8, .long (lm_db i k (R (100 * k2 + 10 * i + k)))), (6, .long (R (((100 * k2) + (10 * i)) + k))), (4, .int (nI i)), (0, .ref (A 0)), (1, .int (nI k1)), (2, .int (nI k2))]) hx hb d_M_within_165 hl (k := 3) rfl (gx_inc _) (by decide) rfl (fun ls hl => ?_)
                            refine lv_goto (tgt := 76) hx hb d_M_within_168 (by decide) ?_
                            exact ih_76 (k + 1) (by omega) _ _ _ _ m0 mR mE mD mO mM mP mA mB mC mL hfr hP hD hS (lv_sub hl [0, 4, 1, 5, 6, 7] rfl)
                          refine lv_iload_n hx hb d_M_within_136 rfl (lv_at hl 4 rfl) ?_
                          refine lv_if_eq (tgt := 163) hx hb d_M_within_137 (by decide) (fun c24 => ?_) (fun c24 => ?_)
                          · refine lv_iconst (v := nI 0) hx hb d_M_within_163 (by decide) ?_
                            exact gx_i (y := lm_wt (lm_db i k (R (100 * k2 + 10 * i + k)) < F9 (10 * i + k)) (lm_wtI F9 R k2 i k (lm_wtO F9 R k2 (2 * N) i (nI 1)))) (if_pos c24).symm (mg_164 _ _ hP hD hS)
                          · refine lv_aload_n hx hb d_M_within_140 rfl (lv_at hl 5 rfl) ?_
                            refine gf_M_17 hF hT hK hP m0 rfl d_M_within_141 ?_
                            refine lv_bipush (v := nI 10) hx hb d_M_within_144 (by decide) ?_
                            refine lv_iload hx hb d_M_within_146 (lv_at hl 3 rfl) ?_
                            refine lv_imul hx hb d_M_within_148 ?_
                            refine gx_i (y := nI (10 * i)) (pk_mul _ _) ?_
                            refine lv_iload hx hb d_M_within_149 (lv_at hl 2 rfl) ?_
                            refine lv_iadd hx hb d_M_within_151 ?_
                            refine gx_i (y := nI ((10 * i) + k)) (nI_add _ _) ?_
                            refine g_lald (t0 := 0) (k := (10 * i) + k) hx hb hK hP mD rfl (by omega) (by omega) d_M_within_152 ?_
                            refine lv_lload hx hb d_M_within_153 (lv_at hl 0 rfl) ?_
                            refine gx_lgt (tgt := 163) hx hb d_M_within_155 d_M_within_156 (by decide) (fun c25 => ?_) (fun c25 => ?_)
                            · refine lv_iconst (v := nI 0) hx hb d_M_within_163 (by decide) ?_
                              exact gx_i (y := lm_wt (lm_db i k (R (100 * k2 + 10 * i + k)) < F9 (10 * i + k)) (lm_wtI F9 R k2 i k (lm_wtO F9 R k2 (2 * N) i (nI 1)))) ((if_neg c24).trans (if_pos c25)).symm (mg_164 _ _ hP hD hS)
                            · refine lv_iconst (v := nI 1) hx hb d_M_within_159 (by decide) ?_
                              refine lv_goto (tgt := 164) hx hb d_M_within_160 (by decide) ?_
                              exact gx_i (y := lm_wt (lm_db i k (R (100 * k2 + 10 * i + k)) < F9 (10 * i + k)) (lm_wtI F9 R k2 i k (lm_wtO F9 R k2 (2 * N) i (nI 1)))) ((if_neg c24).trans (if_neg c25)).symm (mg_164 _ _ hP hD hS)
                        refine lv_iload hx hb d_M_within_107 (lv_at hl 2 rfl) ?_
                        refine lv_iload hx hb d_M_within_109 (lv_at hl 1 rfl) ?_
                        refine lv_icmp_ne (tgt := 132) hx hb d_M_within_111 (by decide) (fun c26 => ?_) (fun c26 => ?_)
                        · have c26 : ¬ (i = k) := fun z => c26 ((nI_eq (a := i) (b := k) (by omega) (by omega)).mpr z)
                          refine lv_lload hx hb d_M_within_132 (lv_at hl 0 rfl) ?_
                          exact gx_l (y := lm_db i k (R (100 * k2 + 10 * i + k))) (by unfold lm_db; rw [if_neg c26]) (mg_134 _ _ hP hD hS)
                        · have c26 := (nI_eq (a := i) (b := k) (by omega) (by omega)).mp c26
                          refine lv_lload hx hb d_M_within_114 (lv_at hl 0 rfl) ?_
                          refine lv_ldc2 (v := lr_E) hx hb hown (hts _ (hT _ wm_3_124)) d_M_within_116 ?_
                          refine gx_leq (tgt := 132) hx hb d_M_within_119 d_M_within_120 (by decide) (fun c27 => ?_) (fun c27 => ?_)
                          · refine lv_lload hx hb d_M_within_132 (lv_at hl 0 rfl) ?_
                            exact gx_l (y := lm_db i k (R (100 * k2 + 10 * i + k))) (by unfold lm_db; rw [if_pos c26, if_pos c27]) (mg_134 _ _ hP hD hS)
                          · refine lv_ldc2 (v := (2 : Int64)) hx hb hown (hts _ (hT _ wm_3_202)) d_M_within_123 ?_
                            refine lv_lload hx hb d_M_within_126 (lv_at hl 0 rfl) ?_
                            refine lv_lmul hx hb d_M_within_128 ?_
                            refine lv_goto (tgt := 134) hx hb d_M_within_129 (by decide) ?_
                            exact gx_l (y := lm_db i k (R (100 * k2 + 10 * i + k))) (by unfold lm_db; rw [if_pos c26, if_neg c27]) (mg_134 _ _ hP hD hS)
                  exact lp_76 (2 * N) 0 (by omega) _ _ _ _ m0 mR mE mD mO mM mP mA mB mC mL hfr hP hD hS (lv_sub hl [0, 1, 2, 3, 4, 5] rfl)
            exact lp_62 (2 * N) 0 (by omega) _ _ _ _ m0 mR mE mD mO mM mP mA mB mC mL hfr hP hD hS (lv_sub hl [0, 1, 2, 3, 4] rfl)
        · have hE36 := h_r8.n c10
          refine lv_iconst (v := nI 1) hx hb d_M_within_42 (by decide) ?_
          exact gw_zret hx hb hr hlocks hK hP hD hS (Nat.le_of_ble_eq_true rfl) (Nat.le_of_ble_eq_true rfl) rfl d_M_within_43 ⟨⟨_, Or.inr ⟨k1, k2, hk1, hk2, ek1, ek2, rfl, Or.inl ⟨hE36, rfl⟩⟩, ⟨_, _, _, _, m0, mR, mE, mD, mO, mM, mP, mA, mB, mC, mL⟩⟩, hfr⟩
      · have c7 : ¬ (0 ≤ 0) := fun z => c7 ((nI_leI (a := 0) (b := 0) (by omega) (by omega)).mpr z)
        exfalso; omega

set_option maxHeartbeats 4000000 in
set_option maxRecDepth 100000 in
theorem c_M_put {l : Launch} {D : va_G} {cJ cI cZ cS : ClassId} {ws : va_W} {sz : Nat} {b N nm : Nat} {A : Nat → Nat} {th : Int32} {R Pt nC : Nat → Int64} {Em nA nB : Nat → Int32} (hM : mS cJ cI cZ ws b A N th nm R Em Pt nA nB nC) (hN1 : 1 ≤ N) (hN5 : N ≤ 5) {x : Int32} {v : Int64} : Met l y_M_put w_M_put ({ frames := 2, cells := 0, slots := 0, locals := 21 } : Room) (gw_Pc D classes (gT cJ cI cZ cS) [.ref (A 0), .int x, .long v] ws sz) (va_Ql (fun r w => (∃ th' P', ((¬ okN N x ∧ th' = nI 1 ∧ P' = Pt) ∨ (okN N x ∧ ¬ okG v ∧ th' = nI 2 ∧ P' = Pt) ∨ (∃ k, 1 ≤ k ∧ k ≤ N ∧ x = nI k ∧ okG v ∧ th' = nI 0 ∧ r = Pt k ∧ P' = vp_updL Pt k v)) ∧ mS cJ cI cZ w b A N th' nm R Em P' nA nB nC) ∧ gF b (b + 11) ws w) (gw_B D classes (gT cJ cI cZ cS) ws sz) (va_A ws sz)) 0 0 (va_A ws sz) := by
  refine gw_head (by decide) (Nat.le_of_ble_eq_true rfl) (fun p e s m below meth c hsz hx hb hr hlocks hml hown hnm hts hK hN hP hD hS hA ls hl => ?_)
  have hown : s.vm.findClass R_M = some m.cls := hown
  have hT : ∀ w ∈ wG, w ∈ Cond.code y_M_put b_M_put 6 (some .long) :: wG := gd_t _
  have hF : CallFix p m c b_M_put 6 s ([.ref (A 0), .int x, .long v] : List Value).toArray (Cond.code y_M_put b_M_put 6 (some .long) :: wG) R_M := ⟨hx, hb, hml, hown, hts⟩
  have hl : lv_has ls 6 [(0, .ref (A 0)), (1, .int x), (2, .long v)] := hl
  obtain ⟨D0, O, Md, Lf, m0, mR, mE, mD, mO, mM, mP, mA, mB, mC, mL⟩ := hM
  have hfr : gF b (b + 11) ws ws := gF.rf
  refine lv_aload_n hx hb d_M_put_0 rfl (lv_at hl 0 rfl) ?_
  refine lv_aload_n hx hb d_M_put_1 rfl (lv_at hl 0 rfl) ?_
  refine lv_iload_n hx hb d_M_put_2 rfl (lv_at hl 1 rfl) ?_
  refine gw_ci0 (gc_M_132 (As := [.int x]) (rest := [.ref (A 0)]) hF hT (c_M_isName m0 hN1 hN5) ⟨(Nat.le_of_ble_eq_true rfl), (Nat.le_of_ble_eq_true rfl)⟩ rfl rfl hK hN hP hD m0 rfl hl.1 rfl (Nat.le_of_ble_eq_true rfl) d_M_put_3 ⟨(Nat.le_of_ble_eq_true rfl), (Nat.le_of_ble_eq_true rfl)⟩) hD hS hA (fun r1 H locs e_r1 hP hD hS => ?_)
  refine lv_if_ne (tgt := 13) hx hb d_M_put_6 (by decide) (fun c2 => ?_) (fun c2 => ?_)
  · have hq_x := gb_f e_r1 c2
    obtain ⟨k, hk, hk5, ek⟩ := hq_x.k hN5
    have ht_x := hq_x.tm hN5
    rw [ek] at hl ht_x
    refine lv_lload_n hx hb d_M_put_13 rfl (lv_at hl 2 rfl) ?_
    refine gw_ci0 (gc_M_94 (As := [.long v]) (rest := [.ref (A 0)]) hF hT (c_M_isSmall) ⟨(Nat.le_of_ble_eq_true rfl), (Nat.le_of_ble_eq_true rfl)⟩ rfl rfl hK hN hP hD rfl hl.1 rfl (Nat.le_of_ble_eq_true rfl) d_M_put_14 ⟨(Nat.le_of_ble_eq_true rfl), (Nat.le_of_ble_eq_true rfl)⟩) hD hS hA (fun r3 H locs e_r3 hP hD hS => ?_)
    refine lv_if_ne (tgt := 24) hx hb d_M_put_17 (by decide) (fun c4 => ?_) (fun c4 => ?_)
    · have hq_v := gb_f e_r3 c4
      refine lv_iconst (v := nI 0) hx hb d_M_put_24 (by decide) ?_
      refine gp_M_48 hF hT hK hP hD hS (fs1 := [.int (nI 0), .int (nI N), .ref (A 1), .ref (A 2), .ref (A 3), .ref (A 4), .ref (A 5), .ref (A 6), .int (nI nm), .ref (A 7), .ref (A 8), .ref (A 9), .ref (A 10)]) m0 rfl rfl (Nat.le_of_ble_eq_true rfl) rfl d_M_put_25 (fun w H locs m0 hf hP hD hS => ?_)
      have mR := hf.at mR (by omega)
      have mE := hf.at mE (by omega)
      have mD := hf.at mD (by omega)
      have mO := hf.at mO (by omega)
      have mM := hf.at mM (by omega)
      have mP := hf.at mP (by omega)
      have mA := hf.at mA (by omega)
      have mB := hf.at mB (by omega)
      have mC := hf.at mC (by omega)
      have mL := hf.at mL (by omega)
      have hfr := hfr.in hf (by omega) (by omega)
      refine lv_aload_n hx hb d_M_put_28 rfl (lv_at hl 0 rfl) ?_
      refine gf_M_48 hF hT hK hP m0 rfl d_M_put_29 ?_
      refine lv_if_le (tgt := 37) hx hb d_M_put_32 (by decide) (fun c5 => ?_) (fun c5 => ?_)
      · have c5 := (nI_leI (a := 0) (b := 0) (by omega) (by omega)).mp c5
        refine lv_aload_n hx hb d_M_put_37 rfl (lv_at hl 0 rfl) ?_
        refine gf_M_26 hF hT hK hP m0 rfl d_M_put_38 ?_
        refine lv_iload_n hx hb d_M_put_41 rfl (lv_at hl 1 rfl) ?_
        refine g_lald (t0 := 0) (k := k) hx hb hK hP mP rfl (by omega) (by omega) d_M_put_42 ?_
        refine lv_lstore (lv' := [(4, .long (Pt k)), (0, .ref (A 0)), (1, .int (nI k)), (2, .long v)]) hx hb d_M_put_43 hl (by decide) rfl (fun ls hl => ?_)
        refine lv_aload_n hx hb d_M_put_45 rfl (lv_at hl 1 rfl) ?_
        refine gf_M_26 hF hT hK hP m0 rfl d_M_put_46 ?_
        refine lv_iload_n hx hb d_M_put_49 rfl (lv_at hl 2 rfl) ?_
        refine lv_lload_n hx hb d_M_put_50 rfl (lv_at hl 3 rfl) ?_
        refine g_last (t0 := 0) (k := k) hx hb hK hP hD hS mP rfl (by omega) (by omega) d_M_put_51 (fun w H locs mP hf hP hD hS => ?_)
        have m0 := hf.at m0 (by omega)
        have mR := hf.at mR (by omega)
        have mE := hf.at mE (by omega)
        have mD := hf.at mD (by omega)
        have mO := hf.at mO (by omega)
        have mM := hf.at mM (by omega)
        have mA := hf.at mA (by omega)
        have mB := hf.at mB (by omega)
        have mC := hf.at mC (by omega)
        have mL := hf.at mL (by omega)
        have hfr := hfr.in hf (by omega) (by omega)
        refine lv_lload hx hb d_M_put_52 (lv_at hl 0 rfl) ?_
        exact gw_lret hx hb hr hlocks hK hP hD hS (Nat.le_of_ble_eq_true rfl) (Nat.le_of_ble_eq_true rfl) d_M_put_54 ⟨⟨_, _, Or.inr (Or.inr ⟨k, hk, hk5, ek, hq_v, rfl, rfl, rfl⟩), ⟨_, _, _, _, m0, mR, mE, mD, mO, mM, mP, mA, mB, mC, mL⟩⟩, hfr⟩
      · have c5 : ¬ (0 ≤ 0) := fun z => c5 ((nI_leI (a := 0) (b := 0) (by omega) (by omega)).mpr z)
        exfalso; omega
    · refine lv_iconst (v := nI 2) hx hb d_M_put_20 (by decide) ?_
      refine lv_goto (tgt := 25) hx hb d_M_put_21 (by decide) ?_
      refine gp_M_48 hF hT hK hP hD hS (fs1 := [.int (nI 2), .int (nI N), .ref (A 1), .ref (A 2), .ref (A 3), .ref (A 4), .ref (A 5), .ref (A 6), .int (nI nm), .ref (A 7), .ref (A 8), .ref (A 9), .ref (A 10)]) m0 rfl rfl (Nat.le_of_ble_eq_true rfl) rfl d_M_put_25 (fun w H locs m0 hf hP hD hS => ?_)
      have mR := hf.at mR (by omega)
      have mE := hf.at mE (by omega)
      have mD := hf.at mD (by omega)
      have mO := hf.at mO (by omega)
      have mM := hf.at mM (by omega)
      have mP := hf.at mP (by omega)
      have mA := hf.at mA (by omega)
      have mB := hf.at mB (by omega)
      have mC := hf.at mC (by omega)
      have mL := hf.at mL (by omega)
      have hfr := hfr.in hf (by omega) (by omega)
      refine lv_aload_n hx hb d_M_put_28 rfl (lv_at hl 0 rfl) ?_
      refine gf_M_48 hF hT hK hP m0 rfl d_M_put_29 ?_
      refine lv_if_le (tgt := 37) hx hb d_M_put_32 (by decide) (fun c6 => ?_) (fun c6 => ?_)
      · have c6 := (nI_leI (a := 2) (b := 0) (by omega) (by omega)).mp c6
        exfalso; omega
      · have c6 : ¬ (2 ≤ 0) := fun z => c6 ((nI_leI (a := 2) (b := 0) (by omega) (by omega)).mpr z)
        refine lv_lconst (v := 0) hx hb d_M_put_35 rfl ?_
        exact gw_lret hx hb hr hlocks hK hP hD hS (Nat.le_of_ble_eq_true rfl) (Nat.le_of_ble_eq_true rfl) d_M_put_36 ⟨⟨_, _, Or.inr (Or.inl ⟨hq_x, gb_t e_r3 c4, rfl, rfl⟩), ⟨_, _, _, _, m0, mR, mE, mD, mO, mM, mP, mA, mB, mC, mL⟩⟩, hfr⟩
  · refine lv_iconst (v := nI 1) hx hb d_M_put_9 (by decide) ?_
    refine lv_goto (tgt := 25) hx hb d_M_put_10 (by decide) ?_
    refine gp_M_48 hF hT hK hP hD hS (fs1 := [.int (nI 1), .int (nI N), .ref (A 1), .ref (A 2), .ref (A 3), .ref (A 4), .ref (A 5), .ref (A 6), .int (nI nm), .ref (A 7), .ref (A 8), .ref (A 9), .ref (A 10)]) m0 rfl rfl (Nat.le_of_ble_eq_true rfl) rfl d_M_put_25 (fun w H locs m0 hf hP hD hS => ?_)
    have mR := hf.at mR (by omega)
    have mE := hf.at mE (by omega)
    have mD := hf.at mD (by omega)
    have mO := hf.at mO (by omega)
    have mM := hf.at mM (by omega)
    have mP := hf.at mP (by omega)
    have mA := hf.at mA (by omega)
    have mB := hf.at mB (by omega)
    have mC := hf.at mC (by omega)
    have mL := hf.at mL (by omega)
    have hfr := hfr.in hf (by omega) (by omega)
    refine lv_aload_n hx hb d_M_put_28 rfl (lv_at hl 0 rfl) ?_
    refine gf_M_48 hF hT hK hP m0 rfl d_M_put_29 ?_
    refine lv_if_le (tgt := 37) hx hb d_M_put_32 (by decide) (fun c7 => ?_) (fun c7 => ?_)
    · have c7 := (nI_leI (a := 1) (b := 0) (by omega) (by omega)).mp c7
      exfalso; omega
    · have c7 : ¬ (1 ≤ 0) := fun z => c7 ((nI_leI (a := 1) (b := 0) (by omega) (by omega)).mpr z)
      refine lv_lconst (v := 0) hx hb d_M_put_35 rfl ?_
      exact gw_lret hx hb hr hlocks hK hP hD hS (Nat.le_of_ble_eq_true rfl) (Nat.le_of_ble_eq_true rfl) d_M_put_36 ⟨⟨_, _, Or.inl ⟨fun q => gb_t e_r1 c2 q, rfl, rfl⟩, ⟨_, _, _, _, m0, mR, mE, mD, mO, mM, mP, mA, mB, mC, mL⟩⟩, hfr⟩

set_option maxHeartbeats 4000000 in
set_option maxRecDepth 100000 in
theorem c_M_point {l : Launch} {D : va_G} {cJ cI cZ cS : ClassId} {ws : va_W} {sz : Nat} {b N nm : Nat} {A : Nat → Nat} {th : Int32} {R Pt nC : Nat → Int64} {Em nA nB : Nat → Int32} (hM : mS cJ cI cZ ws b A N th nm R Em Pt nA nB nC) (hN1 : 1 ≤ N) (hN5 : N ≤ 5) {x : Int32} : Met l y_M_point w_M_point ({ frames := 2, cells := 0, slots := 0, locals := 21 } : Room) (gw_Pc D classes (gT cJ cI cZ cS) [.ref (A 0), .int x] ws sz) (va_Ql (fun r w => (∃ th', ((¬ okN N x ∧ th' = nI 1) ∨ (∃ k, 1 ≤ k ∧ k ≤ N ∧ x = nI k ∧ th' = nI 0 ∧ r = Pt k)) ∧ mS cJ cI cZ w b A N th' nm R Em Pt nA nB nC) ∧ gF b (b + 11) ws w) (gw_B D classes (gT cJ cI cZ cS) ws sz) (va_A ws sz)) 0 0 (va_A ws sz) := by
  refine gw_head (by decide) (Nat.le_of_ble_eq_true rfl) (fun p e s m below meth c hsz hx hb hr hlocks hml hown hnm hts hK hN hP hD hS hA ls hl => ?_)
  have hown : s.vm.findClass R_M = some m.cls := hown
  have hT : ∀ w ∈ wG, w ∈ Cond.code y_M_point b_M_point 2 (some .long) :: wG := gd_t _
  have hF : CallFix p m c b_M_point 2 s ([.ref (A 0), .int x] : List Value).toArray (Cond.code y_M_point b_M_point 2 (some .long) :: wG) R_M := ⟨hx, hb, hml, hown, hts⟩
  have hl : lv_has ls 2 [(0, .ref (A 0)), (1, .int x)] := hl
  obtain ⟨D0, O, Md, Lf, m0, mR, mE, mD, mO, mM, mP, mA, mB, mC, mL⟩ := hM
  have hfr : gF b (b + 11) ws ws := gF.rf
  refine lv_aload_n hx hb d_M_point_0 rfl (lv_at hl 0 rfl) ?_
  refine lv_aload_n hx hb d_M_point_1 rfl (lv_at hl 0 rfl) ?_
  refine lv_iload_n hx hb d_M_point_2 rfl (lv_at hl 1 rfl) ?_
  refine gw_ci0 (gc_M_132 (As := [.int x]) (rest := [.ref (A 0)]) hF hT (c_M_isName m0 hN1 hN5) ⟨(Nat.le_of_ble_eq_true rfl), (Nat.le_of_ble_eq_true rfl)⟩ rfl rfl hK hN hP hD m0 rfl hl.1 rfl (Nat.le_of_ble_eq_true rfl) d_M_point_3 ⟨(Nat.le_of_ble_eq_true rfl), (Nat.le_of_ble_eq_true rfl)⟩) hD hS hA (fun r1 H locs e_r1 hP hD hS => ?_)
  refine lv_if_eq (tgt := 13) hx hb d_M_point_6 (by decide) (fun c2 => ?_) (fun c2 => ?_)
  · refine lv_iconst (v := nI 1) hx hb d_M_point_13 (by decide) ?_
    refine gp_M_48 hF hT hK hP hD hS (fs1 := [.int (nI 1), .int (nI N), .ref (A 1), .ref (A 2), .ref (A 3), .ref (A 4), .ref (A 5), .ref (A 6), .int (nI nm), .ref (A 7), .ref (A 8), .ref (A 9), .ref (A 10)]) m0 rfl rfl (Nat.le_of_ble_eq_true rfl) rfl d_M_point_14 (fun w H locs m0 hf hP hD hS => ?_)
    have mR := hf.at mR (by omega)
    have mE := hf.at mE (by omega)
    have mD := hf.at mD (by omega)
    have mO := hf.at mO (by omega)
    have mM := hf.at mM (by omega)
    have mP := hf.at mP (by omega)
    have mA := hf.at mA (by omega)
    have mB := hf.at mB (by omega)
    have mC := hf.at mC (by omega)
    have mL := hf.at mL (by omega)
    have hfr := hfr.in hf (by omega) (by omega)
    refine lv_aload_n hx hb d_M_point_17 rfl (lv_at hl 0 rfl) ?_
    refine gf_M_48 hF hT hK hP m0 rfl d_M_point_18 ?_
    refine lv_if_le (tgt := 28) hx hb d_M_point_21 (by decide) (fun c3 => ?_) (fun c3 => ?_)
    · have c3 := (nI_leI (a := 1) (b := 0) (by omega) (by omega)).mp c3
      exfalso; omega
    · have c3 : ¬ (1 ≤ 0) := fun z => c3 ((nI_leI (a := 1) (b := 0) (by omega) (by omega)).mpr z)
      refine lv_lconst (v := 0) hx hb d_M_point_24 rfl ?_
      refine lv_goto (tgt := 34) hx hb d_M_point_25 (by decide) ?_
      exact gw_lret hx hb hr hlocks hK hP hD hS (Nat.le_of_ble_eq_true rfl) (Nat.le_of_ble_eq_true rfl) d_M_point_34 ⟨⟨_, Or.inl ⟨fun q => gb_t e_r1 c2 q, rfl⟩, ⟨_, _, _, _, m0, mR, mE, mD, mO, mM, mP, mA, mB, mC, mL⟩⟩, hfr⟩
  · have hq_x := gb_f e_r1 c2
    obtain ⟨k, hk, hk5, ek⟩ := hq_x.k hN5
    have ht_x := hq_x.tm hN5
    rw [ek] at hl ht_x
    refine lv_iconst (v := nI 0) hx hb d_M_point_9 (by decide) ?_
    refine lv_goto (tgt := 14) hx hb d_M_point_10 (by decide) ?_
    refine gp_M_48 hF hT hK hP hD hS (fs1 := [.int (nI 0), .int (nI N), .ref (A 1), .ref (A 2), .ref (A 3), .ref (A 4), .ref (A 5), .ref (A 6), .int (nI nm), .ref (A 7), .ref (A 8), .ref (A 9), .ref (A 10)]) m0 rfl rfl (Nat.le_of_ble_eq_true rfl) rfl d_M_point_14 (fun w H locs m0 hf hP hD hS => ?_)
    have mR := hf.at mR (by omega)
    have mE := hf.at mE (by omega)
    have mD := hf.at mD (by omega)
    have mO := hf.at mO (by omega)
    have mM := hf.at mM (by omega)
    have mP := hf.at mP (by omega)
    have mA := hf.at mA (by omega)
    have mB := hf.at mB (by omega)
    have mC := hf.at mC (by omega)
    have mL := hf.at mL (by omega)
    have hfr := hfr.in hf (by omega) (by omega)
    refine lv_aload_n hx hb d_M_point_17 rfl (lv_at hl 0 rfl) ?_
    refine gf_M_48 hF hT hK hP m0 rfl d_M_point_18 ?_
    refine lv_if_le (tgt := 28) hx hb d_M_point_21 (by decide) (fun c4 => ?_) (fun c4 => ?_)
    · have c4 := (nI_leI (a := 0) (b := 0) (by omega) (by omega)).mp c4
      refine lv_aload_n hx hb d_M_point_28 rfl (lv_at hl 0 rfl) ?_
      refine gf_M_26 hF hT hK hP m0 rfl d_M_point_29 ?_
      refine lv_iload_n hx hb d_M_point_32 rfl (lv_at hl 1 rfl) ?_
      refine g_lald (t0 := 0) (k := k) hx hb hK hP mP rfl (by omega) (by omega) d_M_point_33 ?_
      exact gw_lret hx hb hr hlocks hK hP hD hS (Nat.le_of_ble_eq_true rfl) (Nat.le_of_ble_eq_true rfl) d_M_point_34 ⟨⟨_, Or.inr ⟨k, hk, hk5, ek, rfl, rfl⟩, ⟨_, _, _, _, m0, mR, mE, mD, mO, mM, mP, mA, mB, mC, mL⟩⟩, hfr⟩
    · have c4 : ¬ (0 ≤ 0) := fun z => c4 ((nI_leI (a := 0) (b := 0) (by omega) (by omega)).mpr z)
      exfalso; omega

set_option maxHeartbeats 4000000 in
set_option maxRecDepth 100000 in
theorem c_M_has {l : Launch} {D : va_G} {cJ cI cZ cS : ClassId} {ws : va_W} {sz : Nat} {b N nm : Nat} {A : Nat → Nat} {th : Int32} {R Pt nC : Nat → Int64} {Em nA nB : Nat → Int32} (hM : mS cJ cI cZ ws b A N th nm R Em Pt nA nB nC) (hN1 : 1 ≤ N) (hN5 : N ≤ 5) {x : Int32} : Met l y_M_has w_M_has ({ frames := 2, cells := 0, slots := 0, locals := 21 } : Room) (gw_Pc D classes (gT cJ cI cZ cS) [.ref (A 0), .int x] ws sz) (va_Qi (fun r w => (∃ th', ((¬ okS x ∧ th' = nI 1) ∨ (∃ k, k < 8 ∧ x = nI k ∧ th' = nI 0 ∧ ((¬ Em k = 0 ∧ r = nI 0) ∨ (Em k = 0 ∧ r = lm_hsO Pt R k (2 * N) (2 * N) (nI 1))))) ∧ mS cJ cI cZ w b A N th' nm R Em Pt nA nB nC) ∧ gF b (b + 11) ws w) (gw_B D classes (gT cJ cI cZ cS) ws sz) (va_A ws sz)) 0 0 (va_A ws sz) := by
  refine gw_head (by decide) (Nat.le_of_ble_eq_true rfl) (fun p e s m below meth c hsz hx hb hr hlocks hml hown hnm hts hK hN hP hD hS hA ls hl => ?_)
  have hown : s.vm.findClass R_M = some m.cls := hown
  have hT : ∀ w ∈ wG, w ∈ Cond.code y_M_has b_M_has 7 (some .boolean) :: wG := gd_t _
  have hF : CallFix p m c b_M_has 7 s ([.ref (A 0), .int x] : List Value).toArray (Cond.code y_M_has b_M_has 7 (some .boolean) :: wG) R_M := ⟨hx, hb, hml, hown, hts⟩
  have hl : lv_has ls 7 [(0, .ref (A 0)), (1, .int x)] := hl
  obtain ⟨D0, O, Md, Lf, m0, mR, mE, mD, mO, mM, mP, mA, mB, mC, mL⟩ := hM
  have hfr : gF b (b + 11) ws ws := gF.rf
  refine lv_aload_n hx hb d_M_has_0 rfl (lv_at hl 0 rfl) ?_
  refine lv_aload_n hx hb d_M_has_1 rfl (lv_at hl 0 rfl) ?_
  refine lv_iload_n hx hb d_M_has_2 rfl (lv_at hl 1 rfl) ?_
  refine gw_ci0 (gc_M_83 (As := [.int x]) (rest := [.ref (A 0)]) hF hT (c_M_isShape m0 hN1 hN5) ⟨(Nat.le_of_ble_eq_true rfl), (Nat.le_of_ble_eq_true rfl)⟩ rfl rfl hK hN hP hD m0 rfl hl.1 rfl (Nat.le_of_ble_eq_true rfl) d_M_has_3 ⟨(Nat.le_of_ble_eq_true rfl), (Nat.le_of_ble_eq_true rfl)⟩) hD hS hA (fun r1 H locs e_r1 hP hD hS => ?_)
  refine lv_if_eq (tgt := 13) hx hb d_M_has_6 (by decide) (fun c2 => ?_) (fun c2 => ?_)
  · refine lv_iconst (v := nI 1) hx hb d_M_has_13 (by decide) ?_
    refine gp_M_48 hF hT hK hP hD hS (fs1 := [.int (nI 1), .int (nI N), .ref (A 1), .ref (A 2), .ref (A 3), .ref (A 4), .ref (A 5), .ref (A 6), .int (nI nm), .ref (A 7), .ref (A 8), .ref (A 9), .ref (A 10)]) m0 rfl rfl (Nat.le_of_ble_eq_true rfl) rfl d_M_has_14 (fun w H locs m0 hf hP hD hS => ?_)
    have mR := hf.at mR (by omega)
    have mE := hf.at mE (by omega)
    have mD := hf.at mD (by omega)
    have mO := hf.at mO (by omega)
    have mM := hf.at mM (by omega)
    have mP := hf.at mP (by omega)
    have mA := hf.at mA (by omega)
    have mB := hf.at mB (by omega)
    have mC := hf.at mC (by omega)
    have mL := hf.at mL (by omega)
    have hfr := hfr.in hf (by omega) (by omega)
    refine lv_aload_n hx hb d_M_has_17 rfl (lv_at hl 0 rfl) ?_
    refine gf_M_48 hF hT hK hP m0 rfl d_M_has_18 ?_
    refine lv_if_ne (tgt := 37) hx hb d_M_has_21 (by decide) (fun c3 => ?_) (fun c3 => ?_)
    · have c3 : ¬ (1 = 0) := fun z => c3 ((nI_eq (a := 1) (b := 0) (by omega) (by omega)).mpr z)
      refine lv_iconst (v := nI 0) hx hb d_M_has_37 (by decide) ?_
      refine lv_istore_n (lv' := [(2, .int (nI 0)), (0, .ref (A 0)), (1, .int x)]) hx hb d_M_has_38 rfl hl (by decide) rfl (fun ls hl => ?_)
      refine lv_iconst (v := nI 0) hx hb d_M_has_39 (by decide) ?_
      refine lv_istore_n (lv' := [(3, .int (nI 0)), (2, .int (nI 0)), (0, .ref (A 0)), (1, .int x)]) hx hb d_M_has_40 rfl hl (by decide) rfl (fun ls hl => ?_)
      refine lv_iload_n hx hb d_M_has_41 rfl (lv_at hl 0 rfl) ?_
      refine lv_iconst (v := nI 2) hx hb d_M_has_42 (by decide) ?_
      refine lv_aload_n hx hb d_M_has_43 rfl (lv_at hl 2 rfl) ?_
      refine gf_M_42 hF hT hK hP m0 rfl d_M_has_44 ?_
      refine lv_imul hx hb d_M_has_47 ?_
      refine gx_i (y := nI (2 * N)) (pk_mul _ _) ?_
      refine lv_icmp_ge (tgt := 142) hx hb d_M_has_48 (by decide) (fun c4 => ?_) (fun c4 => ?_)
      · have c4 := (nI_leI (a := (2 * N)) (b := 0) (by omega) (by omega)).mp c4
        refine lv_iload_n hx hb d_M_has_142 rfl (lv_at hl 1 rfl) ?_
        exact gw_zret hx hb hr hlocks hK hP hD hS (Nat.le_of_ble_eq_true rfl) (Nat.le_of_ble_eq_true rfl) rfl d_M_has_143 ⟨⟨_, Or.inl ⟨fun q => gb_t e_r1 c2 q, rfl⟩, ⟨_, _, _, _, m0, mR, mE, mD, mO, mM, mP, mA, mB, mC, mL⟩⟩, hfr⟩
      · have c4 : ¬ (2 * N ≤ 0) := fun z => c4 ((nI_leI (a := (2 * N)) (b := 0) (by omega) (by omega)).mpr z)
        refine lv_iload_n hx hb d_M_has_51 rfl (lv_at hl 1 rfl) ?_
        refine lv_if_eq (tgt := 142) hx hb d_M_has_52 (by decide) (fun c5 => ?_) (fun c5 => ?_)
        · have c5 := (nI_eq (a := 0) (b := 0) (by omega) (by omega)).mp c5
          refine lv_iload_n hx hb d_M_has_142 rfl (lv_at hl 1 rfl) ?_
          exact gw_zret hx hb hr hlocks hK hP hD hS (Nat.le_of_ble_eq_true rfl) (Nat.le_of_ble_eq_true rfl) rfl d_M_has_143 ⟨⟨_, Or.inl ⟨fun q => gb_t e_r1 c2 q, rfl⟩, ⟨_, _, _, _, m0, mR, mE, mD, mO, mM, mP, mA, mB, mC, mL⟩⟩, hfr⟩
        · have c5 : ¬ (0 = 0) := fun z => c5 ((nI_eq (a := 0) (b := 0) (by omega) (by omega)).mpr z)
          exfalso; omega
    · have c3 := (nI_eq (a := 1) (b := 0) (by omega) (by omega)).mp c3
      exfalso; omega
  · have hq_x := gb_f e_r1 c2
    obtain ⟨k, hk, ek⟩ := hq_x.k
    rw [ek] at hl
    refine lv_iconst (v := nI 0) hx hb d_M_has_9 (by decide) ?_
    refine lv_goto (tgt := 14) hx hb d_M_has_10 (by decide) ?_
    refine gp_M_48 hF hT hK hP hD hS (fs1 := [.int (nI 0), .int (nI N), .ref (A 1), .ref (A 2), .ref (A 3), .ref (A 4), .ref (A 5), .ref (A 6), .int (nI nm), .ref (A 7), .ref (A 8), .ref (A 9), .ref (A 10)]) m0 rfl rfl (Nat.le_of_ble_eq_true rfl) rfl d_M_has_14 (fun w H locs m0 hf hP hD hS => ?_)
    have mR := hf.at mR (by omega)
    have mE := hf.at mE (by omega)
    have mD := hf.at mD (by omega)
    have mO := hf.at mO (by omega)
    have mM := hf.at mM (by omega)
    have mP := hf.at mP (by omega)
    have mA := hf.at mA (by omega)
    have mB := hf.at mB (by omega)
    have mC := hf.at mC (by omega)
    have mL := hf.at mL (by omega)
    have hfr := hfr.in hf (by omega) (by omega)
    refine lv_aload_n hx hb d_M_has_17 rfl (lv_at hl 0 rfl) ?_
    refine gf_M_48 hF hT hK hP m0 rfl d_M_has_18 ?_
    refine lv_if_ne (tgt := 37) hx hb d_M_has_21 (by decide) (fun c6 => ?_) (fun c6 => ?_)
    · have c6 : ¬ (0 = 0) := fun z => c6 ((nI_eq (a := 0) (b := 0) (by omega) (by omega)).mpr z)
      exfalso; omega
    · have c6 := (nI_eq (a := 0) (b := 0) (by omega) (by omega)).mp c6
      refine lv_aload_n hx hb d_M_has_24 rfl (lv_at hl 0 rfl) ?_
      refine gf_M_13 hF hT hK hP m0 rfl d_M_has_25 ?_
      refine lv_iload_n hx hb d_M_has_28 rfl (lv_at hl 1 rfl) ?_
      refine g_zald (t0 := 2) (k := k) hx hb hK hP mE rfl (by omega) (by omega) d_M_has_29 ?_
      refine lv_if_ne (tgt := 37) hx hb d_M_has_30 (by decide) (fun c7 => ?_) (fun c7 => ?_)
      · refine lv_iconst (v := nI 0) hx hb d_M_has_37 (by decide) ?_
        refine lv_istore_n (lv' := [(2, .int (nI 0)), (0, .ref (A 0)), (1, .int (nI k))]) hx hb d_M_has_38 rfl hl (by decide) rfl (fun ls hl => ?_)
        refine lv_iconst (v := nI 0) hx hb d_M_has_39 (by decide) ?_
        refine lv_istore_n (lv' := [(3, .int (nI 0)), (2, .int (nI 0)), (0, .ref (A 0)), (1, .int (nI k))]) hx hb d_M_has_40 rfl hl (by decide) rfl (fun ls hl => ?_)
        refine lv_iload_n hx hb d_M_has_41 rfl (lv_at hl 0 rfl) ?_
        refine lv_iconst (v := nI 2) hx hb d_M_has_42 (by decide) ?_
        refine lv_aload_n hx hb d_M_has_43 rfl (lv_at hl 2 rfl) ?_
        refine gf_M_42 hF hT hK hP m0 rfl d_M_has_44 ?_
        refine lv_imul hx hb d_M_has_47 ?_
        refine gx_i (y := nI (2 * N)) (pk_mul _ _) ?_
        refine lv_icmp_ge (tgt := 142) hx hb d_M_has_48 (by decide) (fun c8 => ?_) (fun c8 => ?_)
        · have c8 := (nI_leI (a := (2 * N)) (b := 0) (by omega) (by omega)).mp c8
          refine lv_iload_n hx hb d_M_has_142 rfl (lv_at hl 1 rfl) ?_
          exact gw_zret hx hb hr hlocks hK hP hD hS (Nat.le_of_ble_eq_true rfl) (Nat.le_of_ble_eq_true rfl) rfl d_M_has_143 ⟨⟨_, Or.inr ⟨k, hk, ek, rfl, Or.inl ⟨c7, rfl⟩⟩, ⟨_, _, _, _, m0, mR, mE, mD, mO, mM, mP, mA, mB, mC, mL⟩⟩, hfr⟩
        · have c8 : ¬ (2 * N ≤ 0) := fun z => c8 ((nI_leI (a := (2 * N)) (b := 0) (by omega) (by omega)).mpr z)
          refine lv_iload_n hx hb d_M_has_51 rfl (lv_at hl 1 rfl) ?_
          refine lv_if_eq (tgt := 142) hx hb d_M_has_52 (by decide) (fun c9 => ?_) (fun c9 => ?_)
          · have c9 := (nI_eq (a := 0) (b := 0) (by omega) (by omega)).mp c9
            refine lv_iload_n hx hb d_M_has_142 rfl (lv_at hl 1 rfl) ?_
            exact gw_zret hx hb hr hlocks hK hP hD hS (Nat.le_of_ble_eq_true rfl) (Nat.le_of_ble_eq_true rfl) rfl d_M_has_143 ⟨⟨_, Or.inr ⟨k, hk, ek, rfl, Or.inl ⟨c7, rfl⟩⟩, ⟨_, _, _, _, m0, mR, mE, mD, mO, mM, mP, mA, mB, mC, mL⟩⟩, hfr⟩
          · have c9 : ¬ (0 = 0) := fun z => c9 ((nI_eq (a := 0) (b := 0) (by omega) (by omega)).mpr z)
            exfalso; omega
      · refine lv_iconst (v := nI 1) hx hb d_M_has_33 (by decide) ?_
        refine lv_goto (tgt := 38) hx hb d_M_has_34 (by decide) ?_
        refine lv_istore_n (lv' := [(2, .int (nI 1)), (0, .ref (A 0)), (1, .int (nI k))]) hx hb d_M_has_38 rfl hl (by decide) rfl (fun ls hl => ?_)
        refine lv_iconst (v := nI 0) hx hb d_M_has_39 (by decide) ?_
        refine lv_istore_n (lv' := [(3, .int (nI 0)), (2, .int (nI 1)), (0, .ref (A 0)), (1, .int (nI k))]) hx hb d_M_has_40 rfl hl (by decide) rfl (fun ls hl => ?_)
        have lp_41 : ∀ (dd i : Nat), i + dd = (2 * N) → ∀ (w : va_W) (H : Heap) (locs : List Loc) (ls : Array Slot), w[b]? = some (A 0, .inr (3, [.int (nI 0), .int (nI N), .ref (A 1), .ref (A 2), .ref (A 3), .ref (A 4), .ref (A 5), .ref (A 6), .int (nI nm), .ref (A 7), .ref (A 8), .ref (A 9), .ref (A 10)])) → w[b + 1]? = some (A 1, .inl (cJ, 800, .inr (.inl R))) → w[b + 2]? = some (A 2, .inl (cZ, 8, .inl Em)) → w[b + 3]? = some (A 3, .inl (cJ, 100, .inr (.inl D0))) → w[b + 4]? = some (A 4, .inl (cJ, 100, .inr (.inl O))) → w[b + 5]? = some (A 5, .inl (cJ, 100, .inr (.inl Md))) → w[b + 6]? = some (A 6, .inl (cJ, 6, .inr (.inl Pt))) → w[b + 7]? = some (A 7, .inl (cI, 60, .inl nA)) → w[b + 8]? = some (A 8, .inl (cI, 60, .inl nB)) → w[b + 9]? = some (A 9, .inl (cJ, 60, .inr (.inl nC))) → w[b + 10]? = some (A 10, .inl (cZ, 60, .inl Lf)) → gF b (b + 11) ws w → va_P D classes w H → va_D (va_A ws sz) w → va_S (va_A ws sz) s.heap H locs → lv_has ls 7 [(3, .int (nI i)), (2, .int (lm_hsO Pt R k (2 * N) i (nI 1))), (0, .ref (A 0)), (1, .int (nI k))] → W p l e ({ frames := 2, cells := 0, slots := 0, locals := 21 } : Room) s m ([.ref (A 0), .int x] : List Value).toArray below meth c H locs 0 0 (MQ below (va_Qi (fun r w => (∃ th', ((¬ okS x ∧ th' = nI 1) ∨ (∃ k, k < 8 ∧ x = nI k ∧ th' = nI 0 ∧ ((¬ Em k = 0 ∧ r = nI 0) ∨ (Em k = 0 ∧ r = lm_hsO Pt R k (2 * N) (2 * N) (nI 1))))) ∧ mS cJ cI cZ w b A N th' nm R Em Pt nA nB nC) ∧ gF b (b + 11) ws w) (gw_B D classes (gT cJ cI cZ cS) ws sz) (va_A ws sz)) ([.ref (A 0), .int x] : List Value).toArray s 0 0 (va_A ws sz)) (F0 m 41 ls []) := by
          intro dd
          induction dd with
          | zero =>
            intro i e_i w H locs ls m0 mR mE mD mO mM mP mA mB mC mL hfr hP hD hS hl
            have e0_i : (2 * N) = i := by omega
            subst e0_i
            refine lv_iload_n hx hb d_M_has_41 rfl (lv_at hl 0 rfl) ?_
            refine lv_iconst (v := nI 2) hx hb d_M_has_42 (by decide) ?_
            refine lv_aload_n hx hb d_M_has_43 rfl (lv_at hl 2 rfl) ?_
            refine gf_M_42 hF hT hK hP m0 rfl d_M_has_44 ?_
            refine lv_imul hx hb d_M_has_47 ?_
            refine gx_i (y := nI (2 * N)) (pk_mul _ _) ?_
            refine lv_icmp_ge (tgt := 142) hx hb d_M_has_48 (by decide) (fun c10 => ?_) (fun c10 => ?_)
            · have c10 := (nI_leI (a := (2 * N)) (b := (2 * N)) (by omega) (by omega)).mp c10
              refine lv_iload_n hx hb d_M_has_142 rfl (lv_at hl 1 rfl) ?_
              exact gw_zret hx hb hr hlocks hK hP hD hS (Nat.le_of_ble_eq_true rfl) (Nat.le_of_ble_eq_true rfl) (lm_b_n (lm_hsO_b (Or.inr rfl))) d_M_has_143 ⟨⟨_, Or.inr ⟨k, hk, ek, rfl, Or.inr ⟨c7, rfl⟩⟩, ⟨_, _, _, _, m0, mR, mE, mD, mO, mM, mP, mA, mB, mC, mL⟩⟩, hfr⟩
            · have c10 : ¬ (2 * N ≤ (2 * N)) := fun z => c10 ((nI_leI (a := (2 * N)) (b := (2 * N)) (by omega) (by omega)).mpr z)
              exfalso; omega
          | succ dd ih_41 =>
            intro i e_i w H locs ls m0 mR mE mD mO mM mP mA mB mC mL hfr hP hD hS hl
            refine lv_iload_n hx hb d_M_has_41 rfl (lv_at hl 0 rfl) ?_
            refine lv_iconst (v := nI 2) hx hb d_M_has_42 (by decide) ?_
            refine lv_aload_n hx hb d_M_has_43 rfl (lv_at hl 2 rfl) ?_
            refine gf_M_42 hF hT hK hP m0 rfl d_M_has_44 ?_
            refine lv_imul hx hb d_M_has_47 ?_
            refine gx_i (y := nI (2 * N)) (pk_mul _ _) ?_
            refine lv_icmp_ge (tgt := 142) hx hb d_M_has_48 (by decide) (fun c11 => ?_) (fun c11 => ?_)
            · have c11 := (nI_leI (a := (2 * N)) (b := i) (by omega) (by omega)).mp c11
              exfalso; omega
            · have c11 : ¬ (2 * N ≤ i) := fun z => c11 ((nI_leI (a := (2 * N)) (b := i) (by omega) (by omega)).mpr z)
              refine lv_iload_n hx hb d_M_has_51 rfl (lv_at hl 1 rfl) ?_
              refine lv_if_eq (tgt := 142) hx hb d_M_has_52 (by decide) (fun c12 => ?_) (fun c12 => ?_)
              · refine lv_iload_n hx hb d_M_has_142 rfl (lv_at hl 1 rfl) ?_
                exact gw_zret hx hb hr hlocks hK hP hD hS (Nat.le_of_ble_eq_true rfl) (Nat.le_of_ble_eq_true rfl) (lm_b_n (lm_hsO_b (Or.inr rfl))) d_M_has_143 ⟨⟨_, Or.inr ⟨k, hk, ek, rfl, Or.inr ⟨c7, lm_hsO_e c12 (by omega)⟩⟩, ⟨_, _, _, _, m0, mR, mE, mD, mO, mM, mP, mA, mB, mC, mL⟩⟩, hfr⟩
              · refine lv_iconst (v := nI 0) hx hb d_M_has_55 (by decide) ?_
                refine lv_istore (lv' := [(4, .int (nI 0)), (3, .int (nI i)), (2, .int (lm_hsO Pt R k (2 * N) i (nI 1))), (0, .ref (A 0)), (1, .int (nI k))]) hx hb d_M_has_56 hl (by decide) rfl (fun ls hl => ?_)
                have lp_58 : ∀ (dd j : Nat), j + dd = (2 * N) → ∀ (w : va_W) (H : Heap) (locs : List Loc) (ls : Array Slot), w[b]? = some (A 0, .inr (3, [.int (nI 0), .int (nI N), .ref (A 1), .ref (A 2), .ref (A 3), .ref (A 4), .ref (A 5), .ref (A 6), .int (nI nm), .ref (A 7), .ref (A 8), .ref (A 9), .ref (A 10)])) → w[b + 1]? = some (A 1, .inl (cJ, 800, .inr (.inl R))) → w[b + 2]? = some (A 2, .inl (cZ, 8, .inl Em)) → w[b + 3]? = some (A 3, .inl (cJ, 100, .inr (.inl D0))) → w[b + 4]? = some (A 4, .inl (cJ, 100, .inr (.inl O))) → w[b + 5]? = some (A 5, .inl (cJ, 100, .inr (.inl Md))) → w[b + 6]? = some (A 6, .inl (cJ, 6, .inr (.inl Pt))) → w[b + 7]? = some (A 7, .inl (cI, 60, .inl nA)) → w[b + 8]? = some (A 8, .inl (cI, 60, .inl nB)) → w[b + 9]? = some (A 9, .inl (cJ, 60, .inr (.inl nC))) → w[b + 10]? = some (A 10, .inl (cZ, 60, .inl Lf)) → gF b (b + 11) ws w → va_P D classes w H → va_D (va_A ws sz) w → va_S (va_A ws sz) s.heap H locs → lv_has ls 7 [(4, .int (nI j)), (3, .int (nI i)), (2, .int (lm_hsI Pt R k i j (lm_hsO Pt R k (2 * N) i (nI 1)))), (0, .ref (A 0)), (1, .int (nI k))] → W p l e ({ frames := 2, cells := 0, slots := 0, locals := 21 } : Room) s m ([.ref (A 0), .int x] : List Value).toArray below meth c H locs 0 0 (MQ below (va_Qi (fun r w => (∃ th', ((¬ okS x ∧ th' = nI 1) ∨ (∃ k, k < 8 ∧ x = nI k ∧ th' = nI 0 ∧ ((¬ Em k = 0 ∧ r = nI 0) ∨ (Em k = 0 ∧ r = lm_hsO Pt R k (2 * N) (2 * N) (nI 1))))) ∧ mS cJ cI cZ w b A N th' nm R Em Pt nA nB nC) ∧ gF b (b + 11) ws w) (gw_B D classes (gT cJ cI cZ cS) ws sz) (va_A ws sz)) ([.ref (A 0), .int x] : List Value).toArray s 0 0 (va_A ws sz)) (F0 m 58 ls []) := by
                  intro dd
                  induction dd with
                  | zero =>
                    intro j e_j w H locs ls m0 mR mE mD mO mM mP mA mB mC mL hfr hP hD hS hl
                    have e0_j : (2 * N) = j := by omega
                    subst e0_j
                    refine lv_iload hx hb d_M_has_58 (lv_at hl 0 rfl) ?_
                    refine lv_iconst (v := nI 2) hx hb d_M_has_60 (by decide) ?_
                    refine lv_aload_n hx hb d_M_has_61 rfl (lv_at hl 3 rfl) ?_
                    refine gf_M_42 hF hT hK hP m0 rfl d_M_has_62 ?_
                    refine lv_imul hx hb d_M_has_65 ?_
                    refine gx_i (y := nI (2 * N)) (pk_mul _ _) ?_
                    refine lv_icmp_ge (tgt := 136) hx hb d_M_has_66 (by decide) (fun c13 => ?_) (fun c13 => ?_)
                    · have c13 := (nI_leI (a := (2 * N)) (b := (2 * N)) (by omega) (by omega)).mp c13
                      refine lv_iinc (v := nI (i + 1)) (lv' := [(3, .int (nI (i + 1))), (4, .int (nI (2 * N))), (2, .int (lm_hsI Pt R k i (2 * N) (lm_hsO Pt R k (2 * N) i (nI 1)))), (0, .ref (A 0)), (1, .int (nI k))]) hx hb d_M_has_136 hl (k := 1) rfl (gx_inc _) (by decide) rfl (fun ls hl => ?_)
                      refine lv_goto (tgt := 41) hx hb d_M_has_139 (by decide) ?_
                      exact ih_41 (i + 1) (by omega) _ _ _ _ m0 mR mE mD mO mM mP mA mB mC mL hfr hP hD hS (lv_sub hl [0, 2, 3, 4] rfl)
                    · have c13 : ¬ (2 * N ≤ (2 * N)) := fun z => c13 ((nI_leI (a := (2 * N)) (b := (2 * N)) (by omega) (by omega)).mpr z)
                      exfalso; omega
                  | succ dd ih_58 =>
                    intro j e_j w H locs ls m0 mR mE mD mO mM mP mA mB mC mL hfr hP hD hS hl
                    refine lv_iload hx hb d_M_has_58 (lv_at hl 0 rfl) ?_
                    refine lv_iconst (v := nI 2) hx hb d_M_has_60 (by decide) ?_
                    refine lv_aload_n hx hb d_M_has_61 rfl (lv_at hl 3 rfl) ?_
                    refine gf_M_42 hF hT hK hP m0 rfl d_M_has_62 ?_
                    refine lv_imul hx hb d_M_has_65 ?_
                    refine gx_i (y := nI (2 * N)) (pk_mul _ _) ?_
                    refine lv_icmp_ge (tgt := 136) hx hb d_M_has_66 (by decide) (fun c14 => ?_) (fun c14 => ?_)
                    · have c14 := (nI_leI (a := (2 * N)) (b := j) (by omega) (by omega)).mp c14
                      exfalso; omega
                    · have c14 : ¬ (2 * N ≤ j) := fun z => c14 ((nI_leI (a := (2 * N)) (b := j) (by omega) (by omega)).mpr z)
                      have mg_95 : ∀ (H : Heap) (locs : List Loc), va_P D classes w H → va_D (va_A ws sz) w → va_S (va_A ws sz) s.heap H locs → W p l e ({ frames := 2, cells := 0, slots := 0, locals := 21 } : Room) s m ([.ref (A 0), .int x] : List Value).toArray below meth c H locs 0 0 (MQ below (va_Qi (fun r w => (∃ th', ((¬ okS x ∧ th' = nI 1) ∨ (∃ k, k < 8 ∧ x = nI k ∧ th' = nI 0 ∧ ((¬ Em k = 0 ∧ r = nI 0) ∨ (Em k = 0 ∧ r = lm_hsO Pt R k (2 * N) (2 * N) (nI 1))))) ∧ mS cJ cI cZ w b A N th' nm R Em Pt nA nB nC) ∧ gF b (b + 11) ws w) (gw_B D classes (gT cJ cI cZ cS) ws sz) (va_A ws sz)) ([.ref (A 0), .int x] : List Value).toArray s 0 0 (va_A ws sz)) (F0 m 95 ls [.long (lm_hvv Pt i j)]) := by
                        intro H locs hP hD hS
                        refine lv_lstore (lv' := [(5, .long (lm_hvv Pt i j)), (4, .int (nI j)), (3, .int (nI i)), (2, .int (lm_hsI Pt R k i j (lm_hsO Pt R k (2 * N) i (nI 1)))), (0, .ref (A 0)), (1, .int (nI k))]) hx hb d_M_has_95 hl (by decide) rfl (fun ls hl => ?_)
                        have mg_129 : ∀ (H : Heap) (locs : List Loc), va_P D classes w H → va_D (va_A ws sz) w → va_S (va_A ws sz) s.heap H locs → W p l e ({ frames := 2, cells := 0, slots := 0, locals := 21 } : Room) s m ([.ref (A 0), .int x] : List Value).toArray below meth c H locs 0 0 (MQ below (va_Qi (fun r w => (∃ th', ((¬ okS x ∧ th' = nI 1) ∨ (∃ k, k < 8 ∧ x = nI k ∧ th' = nI 0 ∧ ((¬ Em k = 0 ∧ r = nI 0) ∨ (Em k = 0 ∧ r = lm_hsO Pt R k (2 * N) (2 * N) (nI 1))))) ∧ mS cJ cI cZ w b A N th' nm R Em Pt nA nB nC) ∧ gF b (b + 11) ws w) (gw_B D classes (gT cJ cI cZ cS) ws sz) (va_A ws sz)) ([.ref (A 0), .int x] : List Value).toArray s 0 0 (va_A ws sz)) (F0 m 129 ls [.int (lm_wt (R (100 * k + 10 * i + j) < lm_hvv Pt i j) (lm_hsI Pt R k i j (lm_hsO Pt R k (2 * N) i (nI 1))))]) := by
                          intro H locs hP hD hS
                          refine lv_istore_n (lv' := [(2, .int (lm_wt (R (100 * k + 10 * i + j) < lm_hvv Pt i j) (lm_hsI Pt R k i j (lm_hsO Pt R k (2 * N) i (nI 1))))), (5, .long (lm_hvv Pt i j)), (4, .int (nI j)), (3, .int (nI i)), (0, .ref (A 0)), (1, .int (nI k))]) hx hb d_M_has_129 rfl hl (by decide) rfl (fun ls hl => ?_)
                          refine lv_iinc (v := nI (j + 1)) (lv' := [(4, .int (nI (j + 1))), (2, .int (lm_wt (R (100 * k + 10 * i + j) < lm_hvv Pt i j) (lm_hsI Pt R k i j (lm_hsO Pt R k (2 * N) i (nI 1))))), (5, .long (lm_hvv Pt i j)), (3, .int (nI i)), (0, .ref (A 0)), (1, .int (nI k))]) hx hb d_M_has_130 hl (k := 2) rfl (gx_inc _) (by decide) rfl (fun ls hl => ?_)
                          refine lv_goto (tgt := 58) hx hb d_M_has_133 (by decide) ?_
                          exact ih_58 (j + 1) (by omega) _ _ _ _ m0 mR mE mD mO mM mP mA mB mC mL hfr hP hD hS (lv_sub hl [0, 3, 1, 4, 5] rfl)
                        refine lv_iload_n hx hb d_M_has_97 rfl (lv_at hl 3 rfl) ?_
                        refine lv_if_eq (tgt := 128) hx hb d_M_has_98 (by decide) (fun c15 => ?_) (fun c15 => ?_)
                        · refine lv_iconst (v := nI 0) hx hb d_M_has_128 (by decide) ?_
                          exact gx_i (y := lm_wt (R (100 * k + 10 * i + j) < lm_hvv Pt i j) (lm_hsI Pt R k i j (lm_hsO Pt R k (2 * N) i (nI 1)))) (if_pos c15).symm (mg_129 _ _ hP hD hS)
                        · refine lv_lload hx hb d_M_has_101 (lv_at hl 0 rfl) ?_
                          refine lv_aload_n hx hb d_M_has_103 rfl (lv_at hl 4 rfl) ?_
                          refine gf_M_7 hF hT hK hP m0 rfl d_M_has_104 ?_
                          refine lv_bipush (v := nI 100) hx hb d_M_has_107 (by decide) ?_
                          refine lv_iload_n hx hb d_M_has_109 rfl (lv_at hl 5 rfl) ?_
                          refine lv_imul hx hb d_M_has_110 ?_
                          refine gx_i (y := nI (100 * k)) (pk_mul _ _) ?_
                          refine lv_bipush (v := nI 10) hx hb d_M_has_111 (by decide) ?_
                          refine lv_iload_n hx hb d_M_has_113 rfl (lv_at hl 2 rfl) ?_
                          refine lv_imul hx hb d_M_has_114 ?_
                          refine gx_i (y := nI (10 * i)) (pk_mul _ _) ?_
                          refine lv_iadd hx hb d_M_has_115 ?_
                          refine gx_i (y := nI ((100 * k) + (10 * i))) (nI_add _ _) ?_
                          refine lv_iload hx hb d_M_has_116 (lv_at hl 1 rfl) ?_
                          refine lv_iadd hx hb d_M_has_118 ?_
                          refine gx_i (y := nI (((100 * k) + (10 * i)) + j)) (nI_add _ _) ?_
                          refine g_lald (t0 := 0) (k := ((100 * k) + (10 * i)) + j) hx hb hK hP mR rfl (by omega) (by omega) d_M_has_119 ?_
                          refine gx_lgt (tgt := 128) hx hb d_M_has_120 d_M_has_121 (by decide) (fun c16 => ?_) (fun c16 => ?_)
                          · refine lv_iconst (v := nI 0) hx hb d_M_has_128 (by decide) ?_
                            exact gx_i (y := lm_wt (R (100 * k + 10 * i + j) < lm_hvv Pt i j) (lm_hsI Pt R k i j (lm_hsO Pt R k (2 * N) i (nI 1)))) ((if_neg c15).trans (if_pos c16)).symm (mg_129 _ _ hP hD hS)
                          · refine lv_iconst (v := nI 1) hx hb d_M_has_124 (by decide) ?_
                            refine lv_goto (tgt := 129) hx hb d_M_has_125 (by decide) ?_
                            exact gx_i (y := lm_wt (R (100 * k + 10 * i + j) < lm_hvv Pt i j) (lm_hsI Pt R k i j (lm_hsO Pt R k (2 * N) i (nI 1)))) ((if_neg c15).trans (if_neg c16)).symm (mg_129 _ _ hP hD hS)
                      refine lv_iload_n hx hb d_M_has_69 rfl (lv_at hl 1 rfl) ?_
                      refine lv_iload hx hb d_M_has_70 (lv_at hl 0 rfl) ?_
                      refine lv_icmp_ne (tgt := 83) hx hb d_M_has_72 (by decide) (fun c17 => ?_) (fun c17 => ?_)
                      · have c17 : ¬ (i = j) := fun z => c17 ((nI_eq (a := i) (b := j) (by omega) (by omega)).mpr z)
                        refine lv_aload_n hx hb d_M_has_83 rfl (lv_at hl 3 rfl) ?_
                        refine lv_iload_n hx hb d_M_has_84 rfl (lv_at hl 1 rfl) ?_
                        refine gw_cl0 (gc_M_146 (As := [.int (nI i)]) (rest := []) hF hT (c_M_valueAt m0 mP hN1 hN5 (by omega)) ⟨(Nat.le_of_ble_eq_true rfl), (Nat.le_of_ble_eq_true rfl)⟩ rfl rfl hK hN hP hD m0 rfl hl.1 rfl (Nat.le_of_ble_eq_true rfl) d_M_has_85 ⟨(Nat.le_of_ble_eq_true rfl), (Nat.le_of_ble_eq_true rfl)⟩) hD hS hA (fun r18 H locs e_r18 hP hD hS => ?_)
                        subst e_r18
                        refine lv_aload_n hx hb d_M_has_88 rfl (lv_at hl 3 rfl) ?_
                        refine lv_iload hx hb d_M_has_89 (lv_at hl 0 rfl) ?_
                        refine gw_cl0 (gc_M_146 (As := [.int (nI j)]) (rest := [.long (lm_val Pt i)]) hF hT (c_M_valueAt m0 mP hN1 hN5 (by omega)) ⟨(Nat.le_of_ble_eq_true rfl), (Nat.le_of_ble_eq_true rfl)⟩ rfl rfl hK hN hP hD m0 rfl hl.1 rfl (Nat.le_of_ble_eq_true rfl) d_M_has_91 ⟨(Nat.le_of_ble_eq_true rfl), (Nat.le_of_ble_eq_true rfl)⟩) hD hS hA (fun r19 H locs e_r19 hP hD hS => ?_)
                        subst e_r19
                        refine lv_ladd hx hb d_M_has_94 ?_
                        exact gx_l (y := lm_hvv Pt i j) (by unfold lm_hvv; rw [if_neg c17]) (mg_95 _ _ hP hD hS)
                      · have c17 := (nI_eq (a := i) (b := j) (by omega) (by omega)).mp c17
                        refine lv_aload_n hx hb d_M_has_75 rfl (lv_at hl 3 rfl) ?_
                        refine lv_iload_n hx hb d_M_has_76 rfl (lv_at hl 1 rfl) ?_
                        refine gw_cl0 (gc_M_146 (As := [.int (nI i)]) (rest := []) hF hT (c_M_valueAt m0 mP hN1 hN5 (by omega)) ⟨(Nat.le_of_ble_eq_true rfl), (Nat.le_of_ble_eq_true rfl)⟩ rfl rfl hK hN hP hD m0 rfl hl.1 rfl (Nat.le_of_ble_eq_true rfl) d_M_has_77 ⟨(Nat.le_of_ble_eq_true rfl), (Nat.le_of_ble_eq_true rfl)⟩) hD hS hA (fun r20 H locs e_r20 hP hD hS => ?_)
                        subst e_r20
                        refine lv_goto (tgt := 95) hx hb d_M_has_80 (by decide) ?_
                        exact gx_l (y := lm_hvv Pt i j) (by unfold lm_hvv; rw [if_pos c17]) (mg_95 _ _ hP hD hS)
                exact lp_58 (2 * N) 0 (by omega) _ _ _ _ m0 mR mE mD mO mM mP mA mB mC mL hfr hP hD hS (lv_sub hl [0, 1, 2, 3, 4] rfl)
        exact lp_41 (2 * N) 0 (by omega) _ _ _ _ m0 mR mE mD mO mM mP mA mB mC mL hfr hP hD hS (lv_sub hl [0, 1, 2, 3] rfl)

set_option maxHeartbeats 4000000 in
set_option maxRecDepth 100000 in
theorem c_M_sample {l : Launch} {D : va_G} {cJ cI cZ cS : ClassId} {ws : va_W} {sz : Nat} {b N nm : Nat} {A : Nat → Nat} {th : Int32} {R Pt nC : Nat → Int64} {Em nA nB : Nat → Int32} (hM : mS cJ cI cZ ws b A N th nm R Em Pt nA nB nC) (hN1 : 1 ≤ N) (hN5 : N ≤ 5) {CF : Nat → Nat → Nat → Int64} (hF1 : lm_F N R Em CF) {x : Int32} {YS : Nat → Nat → Nat → Int64} (hY : ∀ k, k < 8 → x = nI k → Em k = 0 → YS 0 = CF k ∧ ∀ t, t < N → lm_Cl N (lm_smM (YS t) (1 + t)) (some (YS (t + 1)))) : Met l y_M_sample w_M_sample ({ frames := 4, cells := 0, slots := 0, locals := 71 } : Room) (gw_Pc D classes (gT cJ cI cZ cS) [.ref (A 0), .int x] ws sz) (va_Qi (fun r w => (∃ th' P', ((¬ okS x ∧ th' = nI 1 ∧ P' = Pt) ∨ (∃ k, k < 8 ∧ x = nI k ∧ th' = nI 0 ∧ ((¬ Em k = 0 ∧ r = nI 0 ∧ P' = Pt) ∨ (Em k = 0 ∧ r = nI 1 ∧ P' = lm_smP YS N Pt)))) ∧ mS cJ cI cZ w b A N th' nm R Em P' nA nB nC) ∧ gF b (b + 11) ws w) (gw_B D classes (gT cJ cI cZ cS) ws sz) (va_A ws sz)) 0 0 (va_A ws sz) := by
  refine gw_head (by decide) (Nat.le_of_ble_eq_true rfl) (fun p e s m below meth c hsz hx hb hr hlocks hml hown hnm hts hK hN hP hD hS hA ls hl => ?_)
  have hown : s.vm.findClass R_M = some m.cls := hown
  have hT : ∀ w ∈ wG, w ∈ Cond.code y_M_sample b_M_sample 8 (some .boolean) :: wG := gd_t _
  have hF : CallFix p m c b_M_sample 8 s ([.ref (A 0), .int x] : List Value).toArray (Cond.code y_M_sample b_M_sample 8 (some .boolean) :: wG) R_M := ⟨hx, hb, hml, hown, hts⟩
  have hl : lv_has ls 8 [(0, .ref (A 0)), (1, .int x)] := hl
  obtain ⟨D0, O, Md, Lf, m0, mR, mE, mD, mO, mM, mP, mA, mB, mC, mL⟩ := hM
  have hfr : gF b (b + 11) ws ws := gF.rf
  refine lv_aload_n hx hb d_M_sample_0 rfl (lv_at hl 0 rfl) ?_
  refine lv_aload_n hx hb d_M_sample_1 rfl (lv_at hl 0 rfl) ?_
  refine lv_iload_n hx hb d_M_sample_2 rfl (lv_at hl 1 rfl) ?_
  refine gw_ci0 (gc_M_83 (As := [.int x]) (rest := [.ref (A 0)]) hF hT (c_M_isShape m0 hN1 hN5) ⟨(Nat.le_of_ble_eq_true rfl), (Nat.le_of_ble_eq_true rfl)⟩ rfl rfl hK hN hP hD m0 rfl hl.1 rfl (Nat.le_of_ble_eq_true rfl) d_M_sample_3 ⟨(Nat.le_of_ble_eq_true rfl), (Nat.le_of_ble_eq_true rfl)⟩) hD hS hA (fun r1 H locs e_r1 hP hD hS => ?_)
  refine lv_if_eq (tgt := 13) hx hb d_M_sample_6 (by decide) (fun c2 => ?_) (fun c2 => ?_)
  · refine lv_iconst (v := nI 1) hx hb d_M_sample_13 (by decide) ?_
    refine gp_M_48 hF hT hK hP hD hS (fs1 := [.int (nI 1), .int (nI N), .ref (A 1), .ref (A 2), .ref (A 3), .ref (A 4), .ref (A 5), .ref (A 6), .int (nI nm), .ref (A 7), .ref (A 8), .ref (A 9), .ref (A 10)]) m0 rfl rfl (Nat.le_of_ble_eq_true rfl) rfl d_M_sample_14 (fun w H locs m0 hf hP hD hS => ?_)
    have mR := hf.at mR (by omega)
    have mE := hf.at mE (by omega)
    have mD := hf.at mD (by omega)
    have mO := hf.at mO (by omega)
    have mM := hf.at mM (by omega)
    have mP := hf.at mP (by omega)
    have mA := hf.at mA (by omega)
    have mB := hf.at mB (by omega)
    have mC := hf.at mC (by omega)
    have mL := hf.at mL (by omega)
    have hfr := hfr.in hf (by omega) (by omega)
    refine lv_aload_n hx hb d_M_sample_17 rfl (lv_at hl 0 rfl) ?_
    refine gf_M_48 hF hT hK hP m0 rfl d_M_sample_18 ?_
    refine lv_if_gt (tgt := 32) hx hb d_M_sample_21 (by decide) (fun c3 => ?_) (fun c3 => ?_)
    · have c3 := (nI_ltI (a := 0) (b := 1) (by omega) (by omega)).mp c3
      refine lv_iconst (v := nI 0) hx hb d_M_sample_32 (by decide) ?_
      exact gw_zret hx hb hr hlocks hK hP hD hS (Nat.le_of_ble_eq_true rfl) (Nat.le_of_ble_eq_true rfl) rfl d_M_sample_33 ⟨⟨_, _, Or.inl ⟨fun q => gb_t e_r1 c2 q, rfl, rfl⟩, ⟨_, _, _, _, m0, mR, mE, mD, mO, mM, mP, mA, mB, mC, mL⟩⟩, hfr⟩
    · have c3 : ¬ (0 < 1) := fun z => c3 ((nI_ltI (a := 0) (b := 1) (by omega) (by omega)).mpr z)
      exfalso; omega
  · have hq_x := gb_f e_r1 c2
    obtain ⟨k, hk, ek⟩ := hq_x.k
    rw [ek] at hl
    refine lv_iconst (v := nI 0) hx hb d_M_sample_9 (by decide) ?_
    refine lv_goto (tgt := 14) hx hb d_M_sample_10 (by decide) ?_
    refine gp_M_48 hF hT hK hP hD hS (fs1 := [.int (nI 0), .int (nI N), .ref (A 1), .ref (A 2), .ref (A 3), .ref (A 4), .ref (A 5), .ref (A 6), .int (nI nm), .ref (A 7), .ref (A 8), .ref (A 9), .ref (A 10)]) m0 rfl rfl (Nat.le_of_ble_eq_true rfl) rfl d_M_sample_14 (fun w H locs m0 hf hP hD hS => ?_)
    have mR := hf.at mR (by omega)
    have mE := hf.at mE (by omega)
    have mD := hf.at mD (by omega)
    have mO := hf.at mO (by omega)
    have mM := hf.at mM (by omega)
    have mP := hf.at mP (by omega)
    have mA := hf.at mA (by omega)
    have mB := hf.at mB (by omega)
    have mC := hf.at mC (by omega)
    have mL := hf.at mL (by omega)
    have hfr := hfr.in hf (by omega) (by omega)
    refine lv_aload_n hx hb d_M_sample_17 rfl (lv_at hl 0 rfl) ?_
    refine gf_M_48 hF hT hK hP m0 rfl d_M_sample_18 ?_
    refine lv_if_gt (tgt := 32) hx hb d_M_sample_21 (by decide) (fun c4 => ?_) (fun c4 => ?_)
    · have c4 := (nI_ltI (a := 0) (b := 0) (by omega) (by omega)).mp c4
      exfalso; omega
    · have c4 : ¬ (0 < 0) := fun z => c4 ((nI_ltI (a := 0) (b := 0) (by omega) (by omega)).mpr z)
      refine lv_aload_n hx hb d_M_sample_24 rfl (lv_at hl 0 rfl) ?_
      refine lv_iload_n hx hb d_M_sample_25 rfl (lv_at hl 1 rfl) ?_
      refine gw_ci (gc_M_98 (As := [.int (nI k)]) (rest := []) hF hT (c_M_closeShape m0 mR mE mD hN1 hN5 (u := k) (by omega) (hF1 k hk)) ⟨(Nat.le_of_ble_eq_true rfl), (Nat.le_of_ble_eq_true rfl)⟩ rfl rfl hK hN hP hD m0 rfl hl.1 rfl (Nat.le_of_ble_eq_true rfl) d_M_sample_26 ⟨(Nat.le_of_ble_eq_true rfl), (Nat.le_of_ble_eq_true rfl)⟩) hD hS hA (fun r5 w H locs hw hP hD hS => ?_)
      obtain ⟨⟨F6, mD, h_r5⟩, hf⟩ := hw
      have m0 := hf.at m0 (by omega)
      have mR := hf.at mR (by omega)
      have mE := hf.at mE (by omega)
      have mO := hf.at mO (by omega)
      have mM := hf.at mM (by omega)
      have mP := hf.at mP (by omega)
      have mA := hf.at mA (by omega)
      have mB := hf.at mB (by omega)
      have mC := hf.at mC (by omega)
      have mL := hf.at mL (by omega)
      have hfr := hfr.in hf (by omega) (by omega)
      refine lv_if_ne (tgt := 34) hx hb d_M_sample_29 (by decide) (fun c7 => ?_) (fun c7 => ?_)
      · obtain ⟨hE26, _, hag26⟩ := h_r5.y c7
        have hYk := hY k hk ek hE26
        rw [← hYk.1] at hag26
        refine lv_iconst (v := nI 1) hx hb d_M_sample_34 (by decide) ?_
        refine lv_istore_n (lv' := [(2, .int (nI 1)), (0, .ref (A 0)), (1, .int (nI k))]) hx hb d_M_sample_35 rfl hl (by decide) rfl (fun ls hl => ?_)
        have lp_36 : ∀ (dd t : Nat), t + dd = N → ∀ (w : va_W) (H : Heap) (locs : List Loc) (ls : Array Slot) (F : Nat → Int64), w[b]? = some (A 0, .inr (3, [.int (nI 0), .int (nI N), .ref (A 1), .ref (A 2), .ref (A 3), .ref (A 4), .ref (A 5), .ref (A 6), .int (nI nm), .ref (A 7), .ref (A 8), .ref (A 9), .ref (A 10)])) → w[b + 1]? = some (A 1, .inl (cJ, 800, .inr (.inl R))) → w[b + 2]? = some (A 2, .inl (cZ, 8, .inl Em)) → w[b + 3]? = some (A 3, .inl (cJ, 100, .inr (.inl F))) → w[b + 4]? = some (A 4, .inl (cJ, 100, .inr (.inl O))) → w[b + 5]? = some (A 5, .inl (cJ, 100, .inr (.inl Md))) → w[b + 6]? = some (A 6, .inl (cJ, 6, .inr (.inl (lm_smP YS t Pt)))) → w[b + 7]? = some (A 7, .inl (cI, 60, .inl nA)) → w[b + 8]? = some (A 8, .inl (cI, 60, .inl nB)) → w[b + 9]? = some (A 9, .inl (cJ, 60, .inr (.inl nC))) → w[b + 10]? = some (A 10, .inl (cZ, 60, .inl Lf)) → (lm_ag N F (YS t)) → gF b (b + 11) ws w → va_P D classes w H → va_D (va_A ws sz) w → va_S (va_A ws sz) s.heap H locs → lv_has ls 8 [(2, .int (nI (1 + t))), (0, .ref (A 0)), (1, .int (nI k))] → W p l e ({ frames := 4, cells := 0, slots := 0, locals := 71 } : Room) s m ([.ref (A 0), .int x] : List Value).toArray below meth c H locs 0 0 (MQ below (va_Qi (fun r w => (∃ th' P', ((¬ okS x ∧ th' = nI 1 ∧ P' = Pt) ∨ (∃ k, k < 8 ∧ x = nI k ∧ th' = nI 0 ∧ ((¬ Em k = 0 ∧ r = nI 0 ∧ P' = Pt) ∨ (Em k = 0 ∧ r = nI 1 ∧ P' = lm_smP YS N Pt)))) ∧ mS cJ cI cZ w b A N th' nm R Em P' nA nB nC) ∧ gF b (b + 11) ws w) (gw_B D classes (gT cJ cI cZ cS) ws sz) (va_A ws sz)) ([.ref (A 0), .int x] : List Value).toArray s 0 0 (va_A ws sz)) (F0 m 36 ls []) := by
          intro dd
          induction dd with
          | zero =>
            intro t e_t w H locs ls F m0 mR mE mD mO mM mP mA mB mC mL hag hfr hP hD hS hl
            have e0_t : N = t := by omega
            subst e0_t
            refine lv_iload_n hx hb d_M_sample_36 rfl (lv_at hl 0 rfl) ?_
            refine lv_aload_n hx hb d_M_sample_37 rfl (lv_at hl 1 rfl) ?_
            refine gf_M_42 hF hT hK hP m0 rfl d_M_sample_38 ?_
            refine lv_icmp_gt (tgt := 132) hx hb d_M_sample_41 (by decide) (fun c8 => ?_) (fun c8 => ?_)
            · have c8 := (nI_ltI (a := N) (b := (1 + N)) (by omega) (by omega)).mp c8
              refine lv_iconst (v := nI 1) hx hb d_M_sample_132 (by decide) ?_
              exact gw_zret hx hb hr hlocks hK hP hD hS (Nat.le_of_ble_eq_true rfl) (Nat.le_of_ble_eq_true rfl) rfl d_M_sample_133 ⟨⟨_, _, Or.inr ⟨k, hk, ek, rfl, Or.inr ⟨hE26, rfl, rfl⟩⟩, ⟨_, _, _, _, m0, mR, mE, mD, mO, mM, mP, mA, mB, mC, mL⟩⟩, hfr⟩
            · have c8 : ¬ (N < 1 + N) := fun z => c8 ((nI_ltI (a := N) (b := (1 + N)) (by omega) (by omega)).mpr z)
              exfalso; omega
          | succ dd ih_36 =>
            intro t e_t w H locs ls F m0 mR mE mD mO mM mP mA mB mC mL hag hfr hP hD hS hl
            refine lv_iload_n hx hb d_M_sample_36 rfl (lv_at hl 0 rfl) ?_
            refine lv_aload_n hx hb d_M_sample_37 rfl (lv_at hl 1 rfl) ?_
            refine gf_M_42 hF hT hK hP m0 rfl d_M_sample_38 ?_
            refine lv_icmp_gt (tgt := 132) hx hb d_M_sample_41 (by decide) (fun c9 => ?_) (fun c9 => ?_)
            · have c9 := (nI_ltI (a := N) (b := (1 + t)) (by omega) (by omega)).mp c9
              exfalso; omega
            · have c9 : ¬ (N < 1 + t) := fun z => c9 ((nI_ltI (a := N) (b := (1 + t)) (by omega) (by omega)).mpr z)
              refine lv_aload_n hx hb d_M_sample_44 rfl (lv_at hl 1 rfl) ?_
              refine lv_iload_n hx hb d_M_sample_45 rfl (lv_at hl 0 rfl) ?_
              refine lv_ineg hx hb d_M_sample_46 ?_
              refine lv_iconst (v := nI 0) hx hb d_M_sample_47 (by decide) ?_
              refine gw_cl0 (gc_M_104 (As := [.int (-(nI (1 + t))), .int (nI 0)]) (rest := []) hF hT (c_M_boundOf m0 mD hN1 hN5 hag (lr_tm_neg (by omega) (lm_tmk (by omega) (by omega) hN5)) lr_tm0) ⟨(Nat.le_of_ble_eq_true rfl), (Nat.le_of_ble_eq_true rfl)⟩ rfl rfl hK hN hP hD m0 rfl hl.1 rfl (Nat.le_of_ble_eq_true rfl) d_M_sample_48 ⟨(Nat.le_of_ble_eq_true rfl), (Nat.le_of_ble_eq_true rfl)⟩) hD hS hA (fun r10 H locs e_r10 hP hD hS => ?_)
              subst e_r10
              refine lv_lstore_n (lv' := [(3, .long (lm_bd (YS t) (-(nI (1 + t))) (nI 0))), (2, .int (nI (1 + t))), (0, .ref (A 0)), (1, .int (nI k))]) hx hb d_M_sample_51 rfl hl (by decide) rfl (fun ls hl => ?_)
              refine lv_aload_n hx hb d_M_sample_52 rfl (lv_at hl 2 rfl) ?_
              refine lv_iload_n hx hb d_M_sample_53 rfl (lv_at hl 1 rfl) ?_
              refine lv_iconst (v := nI 0) hx hb d_M_sample_54 (by decide) ?_
              refine gw_cl0 (gc_M_104 (As := [.int (nI (1 + t)), .int (nI 0)]) (rest := []) hF hT (c_M_boundOf m0 mD hN1 hN5 hag (lm_tmk (by omega) (by omega) hN5) lr_tm0) ⟨(Nat.le_of_ble_eq_true rfl), (Nat.le_of_ble_eq_true rfl)⟩ rfl rfl hK hN hP hD m0 rfl hl.1 rfl (Nat.le_of_ble_eq_true rfl) d_M_sample_55 ⟨(Nat.le_of_ble_eq_true rfl), (Nat.le_of_ble_eq_true rfl)⟩) hD hS hA (fun r11 H locs e_r11 hP hD hS => ?_)
              subst e_r11
              refine lv_lstore (lv' := [(5, .long (lm_bd (YS t) (nI (1 + t)) (nI 0))), (3, .long (lm_bd (YS t) (-(nI (1 + t))) (nI 0))), (2, .int (nI (1 + t))), (0, .ref (A 0)), (1, .int (nI k))]) hx hb d_M_sample_58 hl (by decide) rfl (fun ls hl => ?_)
              refine lv_aload_n hx hb d_M_sample_60 rfl (lv_at hl 3 rfl) ?_
              refine gf_M_26 hF hT hK hP m0 rfl d_M_sample_61 ?_
              refine lv_iload_n hx hb d_M_sample_64 rfl (lv_at hl 2 rfl) ?_
              have mg_93 : ∀ (H : Heap) (locs : List Loc), va_P D classes w H → va_D (va_A ws sz) w → va_S (va_A ws sz) s.heap H locs → W p l e ({ frames := 4, cells := 0, slots := 0, locals := 71 } : Room) s m ([.ref (A 0), .int x] : List Value).toArray below meth c H locs 0 0 (MQ below (va_Qi (fun r w => (∃ th' P', ((¬ okS x ∧ th' = nI 1 ∧ P' = Pt) ∨ (∃ k, k < 8 ∧ x = nI k ∧ th' = nI 0 ∧ ((¬ Em k = 0 ∧ r = nI 0 ∧ P' = Pt) ∨ (Em k = 0 ∧ r = nI 1 ∧ P' = lm_smP YS N Pt)))) ∧ mS cJ cI cZ w b A N th' nm R Em P' nA nB nC) ∧ gF b (b + 11) ws w) (gw_B D classes (gT cJ cI cZ cS) ws sz) (va_A ws sz)) ([.ref (A 0), .int x] : List Value).toArray s 0 0 (va_A ws sz)) (F0 m 93 ls [.long (lm_smV (YS t) (1 + t)), .int (nI (1 + t)), .ref (A 6)]) := by
                intro H locs hP hD hS
                refine g_last (t0 := 0) (k := 1 + t) hx hb hK hP hD hS mP rfl (by omega) (by omega) d_M_sample_93 (fun w H locs mP hf hP hD hS => ?_)
                have m0 := hf.at m0 (by omega)
                have mR := hf.at mR (by omega)
                have mE := hf.at mE (by omega)
                have mD := hf.at mD (by omega)
                have mO := hf.at mO (by omega)
                have mM := hf.at mM (by omega)
                have mA := hf.at mA (by omega)
                have mB := hf.at mB (by omega)
                have mC := hf.at mC (by omega)
                have mL := hf.at mL (by omega)
                have hfr := hfr.in hf (by omega) (by omega)
                refine lv_aload_n hx hb d_M_sample_94 rfl (lv_at hl 3 rfl) ?_
                refine lv_iload_n hx hb d_M_sample_95 rfl (lv_at hl 2 rfl) ?_
                refine lv_iconst (v := nI 0) hx hb d_M_sample_96 (by decide) ?_
                refine lv_aload_n hx hb d_M_sample_97 rfl (lv_at hl 3 rfl) ?_
                refine gf_M_26 hF hT hK hP m0 rfl d_M_sample_98 ?_
                refine lv_iload_n hx hb d_M_sample_101 rfl (lv_at hl 2 rfl) ?_
                refine g_lald (t0 := 0) (k := 1 + t) hx hb hK hP mP rfl (by omega) (by omega) d_M_sample_102 ?_
                refine gx_l (y := lm_smV (YS t) (1 + t)) (vl_eq _ _ _) ?_
                refine gw_cv (gc_M_142 (As := [.int (nI (1 + t)), .int (nI 0), .long (lm_smV (YS t) (1 + t))]) (rest := []) hF hT (c_M_addRow m0 mD hN1 hN5 hag (lm_tmk (by omega) (by omega) hN5) lr_tm0 (fun q => nI_nz (by omega) (by omega) q.1)) ⟨(Nat.le_of_ble_eq_true rfl), (Nat.le_of_ble_eq_true rfl)⟩ rfl rfl hK hN hP hD m0 rfl hl.1 rfl (Nat.le_of_ble_eq_true rfl) d_M_sample_103 ⟨(Nat.le_of_ble_eq_true rfl), (Nat.le_of_ble_eq_true rfl)⟩) hD hS hA (fun w H locs hw hP hD hS => ?_)
                obtain ⟨⟨F12, mD, ag13⟩, hf⟩ := hw
                have m0 := hf.at m0 (by omega)
                have mR := hf.at mR (by omega)
                have mE := hf.at mE (by omega)
                have mO := hf.at mO (by omega)
                have mM := hf.at mM (by omega)
                have mP := hf.at mP (by omega)
                have mA := hf.at mA (by omega)
                have mB := hf.at mB (by omega)
                have mC := hf.at mC (by omega)
                have mL := hf.at mL (by omega)
                have hfr := hfr.in hf (by omega) (by omega)
                refine lv_aload_n hx hb d_M_sample_106 rfl (lv_at hl 3 rfl) ?_
                refine lv_iload_n hx hb d_M_sample_107 rfl (lv_at hl 2 rfl) ?_
                refine lv_ineg hx hb d_M_sample_108 ?_
                refine lv_iconst (v := nI 0) hx hb d_M_sample_109 (by decide) ?_
                refine lv_aload_n hx hb d_M_sample_110 rfl (lv_at hl 3 rfl) ?_
                refine gf_M_26 hF hT hK hP m0 rfl d_M_sample_111 ?_
                refine lv_iload_n hx hb d_M_sample_114 rfl (lv_at hl 2 rfl) ?_
                refine g_lald (t0 := 0) (k := 1 + t) hx hb hK hP mP rfl (by omega) (by omega) d_M_sample_115 ?_
                refine gx_l (y := lm_smV (YS t) (1 + t)) (vl_eq _ _ _) ?_
                refine lv_lneg hx hb d_M_sample_116 ?_
                refine gw_cv (gc_M_142 (As := [.int (-(nI (1 + t))), .int (nI 0), .long (-(lm_smV (YS t) (1 + t)))]) (rest := []) hF hT (c_M_addRow m0 mD hN1 hN5 ag13 (lr_tm_neg (by omega) (lm_tmk (by omega) (by omega) hN5)) lr_tm0 (fun q => mI_nz (by omega) (by omega) q.1)) ⟨(Nat.le_of_ble_eq_true rfl), (Nat.le_of_ble_eq_true rfl)⟩ rfl rfl hK hN hP hD m0 rfl hl.1 rfl (Nat.le_of_ble_eq_true rfl) d_M_sample_117 ⟨(Nat.le_of_ble_eq_true rfl), (Nat.le_of_ble_eq_true rfl)⟩) hD hS hA (fun w H locs hw hP hD hS => ?_)
                obtain ⟨⟨F14, mD, ag15⟩, hf⟩ := hw
                have m0 := hf.at m0 (by omega)
                have mR := hf.at mR (by omega)
                have mE := hf.at mE (by omega)
                have mO := hf.at mO (by omega)
                have mM := hf.at mM (by omega)
                have mP := hf.at mP (by omega)
                have mA := hf.at mA (by omega)
                have mB := hf.at mB (by omega)
                have mC := hf.at mC (by omega)
                have mL := hf.at mL (by omega)
                have hfr := hfr.in hf (by omega) (by omega)
                refine lv_aload_n hx hb d_M_sample_120 rfl (lv_at hl 3 rfl) ?_
                refine gw_ci (gc_M_69 (As := []) (rest := []) hF hT (c_M_close m0 mD hN1 hN5 ag15 (hYk.2 t (by omega))) ⟨(Nat.le_of_ble_eq_true rfl), (Nat.le_of_ble_eq_true rfl)⟩ rfl rfl hK hN hP hD m0 rfl hl.1 rfl (Nat.le_of_ble_eq_true rfl) d_M_sample_121 ⟨(Nat.le_of_ble_eq_true rfl), (Nat.le_of_ble_eq_true rfl)⟩) hD hS hA (fun r16 w H locs hw hP hD hS => ?_)
                obtain ⟨⟨F17, mD, h_r16⟩, hf⟩ := hw
                have m0 := hf.at m0 (by omega)
                have mR := hf.at mR (by omega)
                have mE := hf.at mE (by omega)
                have mO := hf.at mO (by omega)
                have mM := hf.at mM (by omega)
                have mP := hf.at mP (by omega)
                have mA := hf.at mA (by omega)
                have mB := hf.at mB (by omega)
                have mC := hf.at mC (by omega)
                have mL := hf.at mL (by omega)
                have hfr := hfr.in hf (by omega) (by omega)
                refine lv_istore (lv' := [(7, .int r16), (5, .long (lm_bd (YS t) (nI (1 + t)) (nI 0))), (3, .long (lm_bd (YS t) (-(nI (1 + t))) (nI 0))), (2, .int (nI (1 + t))), (0, .ref (A 0)), (1, .int (nI k))]) hx hb d_M_sample_124 hl (by decide) rfl (fun ls hl => ?_)
                refine lv_iinc (v := nI (1 + t + 1)) (lv' := [(2, .int (nI (1 + t + 1))), (7, .int r16), (5, .long (lm_bd (YS t) (nI (1 + t)) (nI 0))), (3, .long (lm_bd (YS t) (-(nI (1 + t))) (nI 0))), (0, .ref (A 0)), (1, .int (nI k))]) hx hb d_M_sample_126 hl (k := 3) rfl (gx_inc _) (by decide) rfl (fun ls hl => ?_)
                refine lv_goto (tgt := 36) hx hb d_M_sample_129 (by decide) ?_
                exact ih_36 (t + 1) (by omega) _ _ _ _ F17 m0 mR mE mD mO mM mP mA mB mC mL (h_r16.s.2) hfr hP hD hS (lv_sub hl [0, 4, 5] rfl)
              refine lv_lload_n hx hb d_M_sample_65 rfl (lv_at hl 1 rfl) ?_
              refine lv_ldc2 (v := lr_E) hx hb hown (hts _ (hT _ wm_3_124)) d_M_sample_66 ?_
              refine gx_leq (tgt := 78) hx hb d_M_sample_69 d_M_sample_70 (by decide) (fun c18 => ?_) (fun c18 => ?_)
              · refine lv_lload hx hb d_M_sample_78 (lv_at hl 0 rfl) ?_
                refine lv_ldc2 (v := lr_E) hx hb hown (hts _ (hT _ wm_3_124)) d_M_sample_80 ?_
                refine gx_leq (tgt := 92) hx hb d_M_sample_83 d_M_sample_84 (by decide) (fun c19 => ?_) (fun c19 => ?_)
                · refine lv_lconst (v := 0) hx hb d_M_sample_92 rfl ?_
                  exact gx_l (y := lm_smV (YS t) (1 + t)) (by unfold lm_smV; rw [if_pos c18, if_pos c19]) (mg_93 _ _ hP hD hS)
                · refine lv_lload hx hb d_M_sample_87 (lv_at hl 0 rfl) ?_
                  refine lv_goto (tgt := 93) hx hb d_M_sample_89 (by decide) ?_
                  exact gx_l (y := lm_smV (YS t) (1 + t)) (by unfold lm_smV; rw [if_pos c18, if_neg c19]) (mg_93 _ _ hP hD hS)
              · refine lv_lload_n hx hb d_M_sample_73 rfl (lv_at hl 1 rfl) ?_
                refine lv_lneg hx hb d_M_sample_74 ?_
                refine lv_goto (tgt := 93) hx hb d_M_sample_75 (by decide) ?_
                exact gx_l (y := lm_smV (YS t) (1 + t)) (by unfold lm_smV; rw [if_neg c18]) (mg_93 _ _ hP hD hS)
        exact lp_36 N 0 (by omega) _ _ _ _ F6 m0 mR mE mD mO mM mP mA mB mC mL hag26 hfr hP hD hS (lv_sub hl [0, 1, 2] rfl)
      · have hE26 := h_r5.n c7
        refine lv_iconst (v := nI 0) hx hb d_M_sample_32 (by decide) ?_
        exact gw_zret hx hb hr hlocks hK hP hD hS (Nat.le_of_ble_eq_true rfl) (Nat.le_of_ble_eq_true rfl) rfl d_M_sample_33 ⟨⟨_, _, Or.inr ⟨k, hk, ek, rfl, Or.inl ⟨hE26, rfl, rfl⟩⟩, ⟨_, _, _, _, m0, mR, mE, mD, mO, mM, mP, mA, mB, mC, mL⟩⟩, hfr⟩

set_option maxHeartbeats 4000000 in
set_option maxRecDepth 100000 in
theorem c_M_needs {l : Launch} {D : va_G} {cJ cI cZ cS : ClassId} {ws : va_W} {sz : Nat} {b N nm : Nat} {A : Nat → Nat} {th : Int32} {R Pt nC : Nat → Int64} {Em nA nB : Nat → Int32} (hM : mS cJ cI cZ ws b A N th nm R Em Pt nA nB nC) (hN1 : 1 ≤ N) (hN5 : N ≤ 5) (h60 : nm ≤ 60) {x y : Int32} : Met l y_M_needs w_M_needs ({ frames := 1, cells := 0, slots := 0, locals := 0 } : Room) (gw_Pc D classes (gT cJ cI cZ cS) [.ref (A 0), .int x, .int y] ws sz) (va_Ql (fun r w => (∃ th', ((¬ lm_okK nm x y ∧ th' = nI 1) ∨ (∃ k q, k < nm ∧ q < 3 ∧ x = nI k ∧ y = nI q ∧ th' = nI 0 ∧ r = if q = 0 then (nA k).toInt64 else if q = 1 then (nB k).toInt64 else nC k)) ∧ mS cJ cI cZ w b A N th' nm R Em Pt nA nB nC) ∧ gF b (b + 11) ws w) (gw_B D classes (gT cJ cI cZ cS) ws sz) (va_A ws sz)) 0 0 (va_A ws sz) := by
  refine gw_head (by decide) (Nat.le_of_ble_eq_true rfl) (fun p e s m below meth c hsz hx hb hr hlocks hml hown hnm hts hK hN hP hD hS hA ls hl => ?_)
  have hown : s.vm.findClass R_M = some m.cls := hown
  have hT : ∀ w ∈ wG, w ∈ Cond.code y_M_needs b_M_needs 3 (some .long) :: wG := gd_t _
  have hF : CallFix p m c b_M_needs 3 s ([.ref (A 0), .int x, .int y] : List Value).toArray (Cond.code y_M_needs b_M_needs 3 (some .long) :: wG) R_M := ⟨hx, hb, hml, hown, hts⟩
  have hl : lv_has ls 3 [(0, .ref (A 0)), (1, .int x), (2, .int y)] := hl
  obtain ⟨D0, O, Md, Lf, m0, mR, mE, mD, mO, mM, mP, mA, mB, mC, mL⟩ := hM
  have hfr : gF b (b + 11) ws ws := gF.rf
  refine lv_aload_n hx hb d_M_needs_0 rfl (lv_at hl 0 rfl) ?_
  refine lv_iload_n hx hb d_M_needs_1 rfl (lv_at hl 1 rfl) ?_
  refine lv_if_lt (tgt := 26) hx hb d_M_needs_2 (by decide) (fun c1 => ?_) (fun c1 => ?_)
  · refine lv_iconst (v := nI 1) hx hb d_M_needs_26 (by decide) ?_
    refine gp_M_48 hF hT hK hP hD hS (fs1 := [.int (nI 1), .int (nI N), .ref (A 1), .ref (A 2), .ref (A 3), .ref (A 4), .ref (A 5), .ref (A 6), .int (nI nm), .ref (A 7), .ref (A 8), .ref (A 9), .ref (A 10)]) m0 rfl rfl (Nat.le_of_ble_eq_true rfl) rfl d_M_needs_27 (fun w H locs m0 hf hP hD hS => ?_)
    have mR := hf.at mR (by omega)
    have mE := hf.at mE (by omega)
    have mD := hf.at mD (by omega)
    have mO := hf.at mO (by omega)
    have mM := hf.at mM (by omega)
    have mP := hf.at mP (by omega)
    have mA := hf.at mA (by omega)
    have mB := hf.at mB (by omega)
    have mC := hf.at mC (by omega)
    have mL := hf.at mL (by omega)
    have hfr := hfr.in hf (by omega) (by omega)
    refine lv_aload_n hx hb d_M_needs_30 rfl (lv_at hl 0 rfl) ?_
    refine gf_M_48 hF hT hK hP m0 rfl d_M_needs_31 ?_
    refine lv_if_le (tgt := 41) hx hb d_M_needs_34 (by decide) (fun c2 => ?_) (fun c2 => ?_)
    · have c2 := (nI_leI (a := 1) (b := 0) (by omega) (by omega)).mp c2
      exfalso; omega
    · have c2 : ¬ (1 ≤ 0) := fun z => c2 ((nI_leI (a := 1) (b := 0) (by omega) (by omega)).mpr z)
      refine lv_lconst (v := 0) hx hb d_M_needs_37 rfl ?_
      refine lv_goto (tgt := 76) hx hb d_M_needs_38 (by decide) ?_
      exact gw_lret hx hb hr hlocks hK hP hD hS (Nat.le_of_ble_eq_true rfl) (Nat.le_of_ble_eq_true rfl) d_M_needs_76 ⟨⟨_, Or.inl ⟨fun q => q.1.1 c1, rfl⟩, ⟨_, _, _, _, m0, mR, mE, mD, mO, mM, mP, mA, mB, mC, mL⟩⟩, hfr⟩
  · refine lv_iload_n hx hb d_M_needs_5 rfl (lv_at hl 1 rfl) ?_
    refine lv_aload_n hx hb d_M_needs_6 rfl (lv_at hl 0 rfl) ?_
    refine gf_M_150 hF hT hK hP m0 rfl d_M_needs_7 ?_
    refine lv_icmp_ge (tgt := 26) hx hb d_M_needs_10 (by decide) (fun c3 => ?_) (fun c3 => ?_)
    · refine lv_iconst (v := nI 1) hx hb d_M_needs_26 (by decide) ?_
      refine gp_M_48 hF hT hK hP hD hS (fs1 := [.int (nI 1), .int (nI N), .ref (A 1), .ref (A 2), .ref (A 3), .ref (A 4), .ref (A 5), .ref (A 6), .int (nI nm), .ref (A 7), .ref (A 8), .ref (A 9), .ref (A 10)]) m0 rfl rfl (Nat.le_of_ble_eq_true rfl) rfl d_M_needs_27 (fun w H locs m0 hf hP hD hS => ?_)
      have mR := hf.at mR (by omega)
      have mE := hf.at mE (by omega)
      have mD := hf.at mD (by omega)
      have mO := hf.at mO (by omega)
      have mM := hf.at mM (by omega)
      have mP := hf.at mP (by omega)
      have mA := hf.at mA (by omega)
      have mB := hf.at mB (by omega)
      have mC := hf.at mC (by omega)
      have mL := hf.at mL (by omega)
      have hfr := hfr.in hf (by omega) (by omega)
      refine lv_aload_n hx hb d_M_needs_30 rfl (lv_at hl 0 rfl) ?_
      refine gf_M_48 hF hT hK hP m0 rfl d_M_needs_31 ?_
      refine lv_if_le (tgt := 41) hx hb d_M_needs_34 (by decide) (fun c4 => ?_) (fun c4 => ?_)
      · have c4 := (nI_leI (a := 1) (b := 0) (by omega) (by omega)).mp c4
        exfalso; omega
      · have c4 : ¬ (1 ≤ 0) := fun z => c4 ((nI_leI (a := 1) (b := 0) (by omega) (by omega)).mpr z)
        refine lv_lconst (v := 0) hx hb d_M_needs_37 rfl ?_
        refine lv_goto (tgt := 76) hx hb d_M_needs_38 (by decide) ?_
        exact gw_lret hx hb hr hlocks hK hP hD hS (Nat.le_of_ble_eq_true rfl) (Nat.le_of_ble_eq_true rfl) d_M_needs_76 ⟨⟨_, Or.inl ⟨fun q => q.1.2 c3, rfl⟩, ⟨_, _, _, _, m0, mR, mE, mD, mO, mM, mP, mA, mB, mC, mL⟩⟩, hfr⟩
    · refine lv_iload_n hx hb d_M_needs_13 rfl (lv_at hl 2 rfl) ?_
      refine lv_if_lt (tgt := 26) hx hb d_M_needs_14 (by decide) (fun c5 => ?_) (fun c5 => ?_)
      · refine lv_iconst (v := nI 1) hx hb d_M_needs_26 (by decide) ?_
        refine gp_M_48 hF hT hK hP hD hS (fs1 := [.int (nI 1), .int (nI N), .ref (A 1), .ref (A 2), .ref (A 3), .ref (A 4), .ref (A 5), .ref (A 6), .int (nI nm), .ref (A 7), .ref (A 8), .ref (A 9), .ref (A 10)]) m0 rfl rfl (Nat.le_of_ble_eq_true rfl) rfl d_M_needs_27 (fun w H locs m0 hf hP hD hS => ?_)
        have mR := hf.at mR (by omega)
        have mE := hf.at mE (by omega)
        have mD := hf.at mD (by omega)
        have mO := hf.at mO (by omega)
        have mM := hf.at mM (by omega)
        have mP := hf.at mP (by omega)
        have mA := hf.at mA (by omega)
        have mB := hf.at mB (by omega)
        have mC := hf.at mC (by omega)
        have mL := hf.at mL (by omega)
        have hfr := hfr.in hf (by omega) (by omega)
        refine lv_aload_n hx hb d_M_needs_30 rfl (lv_at hl 0 rfl) ?_
        refine gf_M_48 hF hT hK hP m0 rfl d_M_needs_31 ?_
        refine lv_if_le (tgt := 41) hx hb d_M_needs_34 (by decide) (fun c6 => ?_) (fun c6 => ?_)
        · have c6 := (nI_leI (a := 1) (b := 0) (by omega) (by omega)).mp c6
          exfalso; omega
        · have c6 : ¬ (1 ≤ 0) := fun z => c6 ((nI_leI (a := 1) (b := 0) (by omega) (by omega)).mpr z)
          refine lv_lconst (v := 0) hx hb d_M_needs_37 rfl ?_
          refine lv_goto (tgt := 76) hx hb d_M_needs_38 (by decide) ?_
          exact gw_lret hx hb hr hlocks hK hP hD hS (Nat.le_of_ble_eq_true rfl) (Nat.le_of_ble_eq_true rfl) d_M_needs_76 ⟨⟨_, Or.inl ⟨fun q => q.2.1 c5, rfl⟩, ⟨_, _, _, _, m0, mR, mE, mD, mO, mM, mP, mA, mB, mC, mL⟩⟩, hfr⟩
      · refine lv_iload_n hx hb d_M_needs_17 rfl (lv_at hl 2 rfl) ?_
        refine lv_iconst (v := nI 2) hx hb d_M_needs_18 (by decide) ?_
        refine lv_icmp_gt (tgt := 26) hx hb d_M_needs_19 (by decide) (fun c7 => ?_) (fun c7 => ?_)
        · refine lv_iconst (v := nI 1) hx hb d_M_needs_26 (by decide) ?_
          refine gp_M_48 hF hT hK hP hD hS (fs1 := [.int (nI 1), .int (nI N), .ref (A 1), .ref (A 2), .ref (A 3), .ref (A 4), .ref (A 5), .ref (A 6), .int (nI nm), .ref (A 7), .ref (A 8), .ref (A 9), .ref (A 10)]) m0 rfl rfl (Nat.le_of_ble_eq_true rfl) rfl d_M_needs_27 (fun w H locs m0 hf hP hD hS => ?_)
          have mR := hf.at mR (by omega)
          have mE := hf.at mE (by omega)
          have mD := hf.at mD (by omega)
          have mO := hf.at mO (by omega)
          have mM := hf.at mM (by omega)
          have mP := hf.at mP (by omega)
          have mA := hf.at mA (by omega)
          have mB := hf.at mB (by omega)
          have mC := hf.at mC (by omega)
          have mL := hf.at mL (by omega)
          have hfr := hfr.in hf (by omega) (by omega)
          refine lv_aload_n hx hb d_M_needs_30 rfl (lv_at hl 0 rfl) ?_
          refine gf_M_48 hF hT hK hP m0 rfl d_M_needs_31 ?_
          refine lv_if_le (tgt := 41) hx hb d_M_needs_34 (by decide) (fun c8 => ?_) (fun c8 => ?_)
          · have c8 := (nI_leI (a := 1) (b := 0) (by omega) (by omega)).mp c8
            exfalso; omega
          · have c8 : ¬ (1 ≤ 0) := fun z => c8 ((nI_leI (a := 1) (b := 0) (by omega) (by omega)).mpr z)
            refine lv_lconst (v := 0) hx hb d_M_needs_37 rfl ?_
            refine lv_goto (tgt := 76) hx hb d_M_needs_38 (by decide) ?_
            exact gw_lret hx hb hr hlocks hK hP hD hS (Nat.le_of_ble_eq_true rfl) (Nat.le_of_ble_eq_true rfl) d_M_needs_76 ⟨⟨_, Or.inl ⟨fun q => q.2.2 c7, rfl⟩, ⟨_, _, _, _, m0, mR, mE, mD, mO, mM, mP, mA, mB, mC, mL⟩⟩, hfr⟩
        · obtain ⟨k, hk, ek, q, hq, eq⟩ := lm_okK.k (by omega) ⟨⟨c1, c3⟩, c5, c7⟩
          rw [ek, eq] at hl
          refine lv_iconst (v := nI 0) hx hb d_M_needs_22 (by decide) ?_
          refine lv_goto (tgt := 27) hx hb d_M_needs_23 (by decide) ?_
          refine gp_M_48 hF hT hK hP hD hS (fs1 := [.int (nI 0), .int (nI N), .ref (A 1), .ref (A 2), .ref (A 3), .ref (A 4), .ref (A 5), .ref (A 6), .int (nI nm), .ref (A 7), .ref (A 8), .ref (A 9), .ref (A 10)]) m0 rfl rfl (Nat.le_of_ble_eq_true rfl) rfl d_M_needs_27 (fun w H locs m0 hf hP hD hS => ?_)
          have mR := hf.at mR (by omega)
          have mE := hf.at mE (by omega)
          have mD := hf.at mD (by omega)
          have mO := hf.at mO (by omega)
          have mM := hf.at mM (by omega)
          have mP := hf.at mP (by omega)
          have mA := hf.at mA (by omega)
          have mB := hf.at mB (by omega)
          have mC := hf.at mC (by omega)
          have mL := hf.at mL (by omega)
          have hfr := hfr.in hf (by omega) (by omega)
          refine lv_aload_n hx hb d_M_needs_30 rfl (lv_at hl 0 rfl) ?_
          refine gf_M_48 hF hT hK hP m0 rfl d_M_needs_31 ?_
          refine lv_if_le (tgt := 41) hx hb d_M_needs_34 (by decide) (fun c9 => ?_) (fun c9 => ?_)
          · have c9 := (nI_leI (a := 0) (b := 0) (by omega) (by omega)).mp c9
            refine lv_iload_n hx hb d_M_needs_41 rfl (lv_at hl 2 rfl) ?_
            refine lv_if_ne (tgt := 55) hx hb d_M_needs_42 (by decide) (fun c10 => ?_) (fun c10 => ?_)
            · have c10 : ¬ (q = 0) := fun z => c10 ((nI_eq (a := q) (b := 0) (by omega) (by omega)).mpr z)
              refine lv_iload_n hx hb d_M_needs_55 rfl (lv_at hl 2 rfl) ?_
              refine lv_iconst (v := nI 1) hx hb d_M_needs_56 (by decide) ?_
              refine lv_icmp_ne (tgt := 70) hx hb d_M_needs_57 (by decide) (fun c11 => ?_) (fun c11 => ?_)
              · have c11 : ¬ (q = 1) := fun z => c11 ((nI_eq (a := q) (b := 1) (by omega) (by omega)).mpr z)
                refine lv_aload_n hx hb d_M_needs_70 rfl (lv_at hl 0 rfl) ?_
                refine gf_M_36 hF hT hK hP m0 rfl d_M_needs_71 ?_
                refine lv_iload_n hx hb d_M_needs_74 rfl (lv_at hl 1 rfl) ?_
                refine g_lald (t0 := 0) (k := k) hx hb hK hP mC rfl (by omega) (by omega) d_M_needs_75 ?_
                exact gw_lret hx hb hr hlocks hK hP hD hS (Nat.le_of_ble_eq_true rfl) (Nat.le_of_ble_eq_true rfl) d_M_needs_76 ⟨⟨_, Or.inr ⟨k, q, hk, hq, ek, eq, rfl, by rw [if_neg c10, if_neg c11]⟩, ⟨_, _, _, _, m0, mR, mE, mD, mO, mM, mP, mA, mB, mC, mL⟩⟩, hfr⟩
              · have c11 := (nI_eq (a := q) (b := 1) (by omega) (by omega)).mp c11
                refine lv_aload_n hx hb d_M_needs_60 rfl (lv_at hl 0 rfl) ?_
                refine gf_M_33 hF hT hK hP m0 rfl d_M_needs_61 ?_
                refine lv_iload_n hx hb d_M_needs_64 rfl (lv_at hl 1 rfl) ?_
                refine g_iald (t0 := 1) (k := k) hx hb hK hP mB rfl (by omega) (by omega) d_M_needs_65 ?_
                refine lv_i2l (v := (nB k).toInt64) hx hb d_M_needs_66 rfl ?_
                refine lv_goto (tgt := 76) hx hb d_M_needs_67 (by decide) ?_
                exact gw_lret hx hb hr hlocks hK hP hD hS (Nat.le_of_ble_eq_true rfl) (Nat.le_of_ble_eq_true rfl) d_M_needs_76 ⟨⟨_, Or.inr ⟨k, q, hk, hq, ek, eq, rfl, by rw [if_neg c10, if_pos c11]⟩, ⟨_, _, _, _, m0, mR, mE, mD, mO, mM, mP, mA, mB, mC, mL⟩⟩, hfr⟩
            · have c10 := (nI_eq (a := q) (b := 0) (by omega) (by omega)).mp c10
              refine lv_aload_n hx hb d_M_needs_45 rfl (lv_at hl 0 rfl) ?_
              refine gf_M_29 hF hT hK hP m0 rfl d_M_needs_46 ?_
              refine lv_iload_n hx hb d_M_needs_49 rfl (lv_at hl 1 rfl) ?_
              refine g_iald (t0 := 1) (k := k) hx hb hK hP mA rfl (by omega) (by omega) d_M_needs_50 ?_
              refine lv_i2l (v := (nA k).toInt64) hx hb d_M_needs_51 rfl ?_
              refine lv_goto (tgt := 76) hx hb d_M_needs_52 (by decide) ?_
              exact gw_lret hx hb hr hlocks hK hP hD hS (Nat.le_of_ble_eq_true rfl) (Nat.le_of_ble_eq_true rfl) d_M_needs_76 ⟨⟨_, Or.inr ⟨k, q, hk, hq, ek, eq, rfl, by rw [if_pos c10]⟩, ⟨_, _, _, _, m0, mR, mE, mD, mO, mM, mP, mA, mB, mC, mL⟩⟩, hfr⟩
          · have c9 : ¬ (0 ≤ 0) := fun z => c9 ((nI_leI (a := 0) (b := 0) (by omega) (by omega)).mpr z)
            exfalso; omega

set_option maxHeartbeats 4000000 in
set_option maxRecDepth 100000 in
theorem c_M_fits {l : Launch} {D : va_G} {cJ cI cZ cS : ClassId} {ws : va_W} {sz : Nat} {b N nm : Nat} {A : Nat → Nat} {th : Int32} {R Pt nC : Nat → Int64} {Em nA nB : Nat → Int32} (hM : mS cJ cI cZ ws b A N th nm R Em Pt nA nB nC) (hN1 : 1 ≤ N) (hN5 : N ≤ 5) {CF : Nat → Nat → Nat → Int64} (hF1 : lm_F N R Em CF) {x y z : Int32} : Met l y_M_fits w_M_fits ({ frames := 4, cells := 0, slots := 0, locals := 71 } : Room) (gw_Pc D classes (gT cJ cI cZ cS) [.ref (A 0), .int x, .int y, .int z] ws sz) (va_Qi (fun r w => (∃ th', ((¬ (okS x ∧ okT N y) ∧ th' = nI 1) ∨ ((okS x ∧ okT N y) ∧ ¬ okB z ∧ th' = nI 2) ∨ (∃ k, k < 8 ∧ x = nI k ∧ okT N y ∧ okB z ∧ th' = nI 0 ∧ ((¬ Em k = 0 ∧ r = nI 1) ∨ (Em k = 0 ∧ (((lm_bd (CF k) y (nI 0) ≤ ((1 : Int64) <<< ((z - nI 1).toInt64 &&& 63)) - 1 ∧ lm_bd (CF k) (-y) (nI 0) ≤ ((1 : Int64) <<< ((z - nI 1).toInt64 &&& 63))) ∧ r = nI 1) ∨ (¬ (lm_bd (CF k) y (nI 0) ≤ ((1 : Int64) <<< ((z - nI 1).toInt64 &&& 63)) - 1 ∧ lm_bd (CF k) (-y) (nI 0) ≤ ((1 : Int64) <<< ((z - nI 1).toInt64 &&& 63))) ∧ r = nI 0)))))) ∧ mS cJ cI cZ w b A N th' nm R Em Pt nA nB nC) ∧ gF b (b + 11) ws w) (gw_B D classes (gT cJ cI cZ cS) ws sz) (va_A ws sz)) 0 0 (va_A ws sz) := by
  refine gw_head (by decide) (Nat.le_of_ble_eq_true rfl) (fun p e s m below meth c hsz hx hb hr hlocks hml hown hnm hts hK hN hP hD hS hA ls hl => ?_)
  have hown : s.vm.findClass R_M = some m.cls := hown
  have hT : ∀ w ∈ wG, w ∈ Cond.code y_M_fits b_M_fits 6 (some .boolean) :: wG := gd_t _
  have hF : CallFix p m c b_M_fits 6 s ([.ref (A 0), .int x, .int y, .int z] : List Value).toArray (Cond.code y_M_fits b_M_fits 6 (some .boolean) :: wG) R_M := ⟨hx, hb, hml, hown, hts⟩
  have hl : lv_has ls 6 [(0, .ref (A 0)), (1, .int x), (2, .int y), (3, .int z)] := hl
  obtain ⟨D0, O, Md, Lf, m0, mR, mE, mD, mO, mM, mP, mA, mB, mC, mL⟩ := hM
  have hfr : gF b (b + 11) ws ws := gF.rf
  refine lv_aload_n hx hb d_M_fits_0 rfl (lv_at hl 0 rfl) ?_
  refine lv_aload_n hx hb d_M_fits_1 rfl (lv_at hl 0 rfl) ?_
  refine lv_iload_n hx hb d_M_fits_2 rfl (lv_at hl 1 rfl) ?_
  refine gw_ci0 (gc_M_83 (As := [.int x]) (rest := [.ref (A 0)]) hF hT (c_M_isShape m0 hN1 hN5) ⟨(Nat.le_of_ble_eq_true rfl), (Nat.le_of_ble_eq_true rfl)⟩ rfl rfl hK hN hP hD m0 rfl hl.1 rfl (Nat.le_of_ble_eq_true rfl) d_M_fits_3 ⟨(Nat.le_of_ble_eq_true rfl), (Nat.le_of_ble_eq_true rfl)⟩) hD hS hA (fun r1 H locs e_r1 hP hD hS => ?_)
  refine lv_if_eq (tgt := 17) hx hb d_M_fits_6 (by decide) (fun c2 => ?_) (fun c2 => ?_)
  · refine lv_iconst (v := nI 1) hx hb d_M_fits_17 (by decide) ?_
    refine lv_goto (tgt := 37) hx hb d_M_fits_18 (by decide) ?_
    refine gp_M_48 hF hT hK hP hD hS (fs1 := [.int (nI 1), .int (nI N), .ref (A 1), .ref (A 2), .ref (A 3), .ref (A 4), .ref (A 5), .ref (A 6), .int (nI nm), .ref (A 7), .ref (A 8), .ref (A 9), .ref (A 10)]) m0 rfl rfl (Nat.le_of_ble_eq_true rfl) rfl d_M_fits_37 (fun w H locs m0 hf hP hD hS => ?_)
    have mR := hf.at mR (by omega)
    have mE := hf.at mE (by omega)
    have mD := hf.at mD (by omega)
    have mO := hf.at mO (by omega)
    have mM := hf.at mM (by omega)
    have mP := hf.at mP (by omega)
    have mA := hf.at mA (by omega)
    have mB := hf.at mB (by omega)
    have mC := hf.at mC (by omega)
    have mL := hf.at mL (by omega)
    have hfr := hfr.in hf (by omega) (by omega)
    refine lv_aload_n hx hb d_M_fits_40 rfl (lv_at hl 0 rfl) ?_
    refine gf_M_48 hF hT hK hP m0 rfl d_M_fits_41 ?_
    refine lv_if_le (tgt := 49) hx hb d_M_fits_44 (by decide) (fun c3 => ?_) (fun c3 => ?_)
    · have c3 := (nI_leI (a := 1) (b := 0) (by omega) (by omega)).mp c3
      exfalso; omega
    · have c3 : ¬ (1 ≤ 0) := fun z => c3 ((nI_leI (a := 1) (b := 0) (by omega) (by omega)).mpr z)
      refine lv_iconst (v := nI 0) hx hb d_M_fits_47 (by decide) ?_
      exact gw_zret hx hb hr hlocks hK hP hD hS (Nat.le_of_ble_eq_true rfl) (Nat.le_of_ble_eq_true rfl) rfl d_M_fits_48 ⟨⟨_, Or.inl ⟨fun q => gb_t e_r1 c2 q.1, rfl⟩, ⟨_, _, _, _, m0, mR, mE, mD, mO, mM, mP, mA, mB, mC, mL⟩⟩, hfr⟩
  · have hq_x := gb_f e_r1 c2
    obtain ⟨k, hk, ek⟩ := hq_x.k
    rw [ek] at hl
    refine lv_aload_n hx hb d_M_fits_9 rfl (lv_at hl 0 rfl) ?_
    refine lv_iload_n hx hb d_M_fits_10 rfl (lv_at hl 2 rfl) ?_
    refine gw_ci0 (gc_M_91 (As := [.int y]) (rest := [.ref (A 0)]) hF hT (c_M_isTerm m0 hN1 hN5) ⟨(Nat.le_of_ble_eq_true rfl), (Nat.le_of_ble_eq_true rfl)⟩ rfl rfl hK hN hP hD m0 rfl hl.1 rfl (Nat.le_of_ble_eq_true rfl) d_M_fits_11 ⟨(Nat.le_of_ble_eq_true rfl), (Nat.le_of_ble_eq_true rfl)⟩) hD hS hA (fun r4 H locs e_r4 hP hD hS => ?_)
    refine lv_if_ne (tgt := 21) hx hb d_M_fits_14 (by decide) (fun c5 => ?_) (fun c5 => ?_)
    · have hq_y := gb_f e_r4 c5
      have ht_y := hq_y.tm hN5
      refine lv_iload_n hx hb d_M_fits_21 rfl (lv_at hl 3 rfl) ?_
      refine lv_iconst (v := nI 1) hx hb d_M_fits_22 (by decide) ?_
      refine lv_icmp_lt (tgt := 32) hx hb d_M_fits_23 (by decide) (fun c6 => ?_) (fun c6 => ?_)
      · refine lv_iconst (v := nI 2) hx hb d_M_fits_32 (by decide) ?_
        refine lv_goto (tgt := 37) hx hb d_M_fits_33 (by decide) ?_
        refine gp_M_48 hF hT hK hP hD hS (fs1 := [.int (nI 2), .int (nI N), .ref (A 1), .ref (A 2), .ref (A 3), .ref (A 4), .ref (A 5), .ref (A 6), .int (nI nm), .ref (A 7), .ref (A 8), .ref (A 9), .ref (A 10)]) m0 rfl rfl (Nat.le_of_ble_eq_true rfl) rfl d_M_fits_37 (fun w H locs m0 hf hP hD hS => ?_)
        have mR := hf.at mR (by omega)
        have mE := hf.at mE (by omega)
        have mD := hf.at mD (by omega)
        have mO := hf.at mO (by omega)
        have mM := hf.at mM (by omega)
        have mP := hf.at mP (by omega)
        have mA := hf.at mA (by omega)
        have mB := hf.at mB (by omega)
        have mC := hf.at mC (by omega)
        have mL := hf.at mL (by omega)
        have hfr := hfr.in hf (by omega) (by omega)
        refine lv_aload_n hx hb d_M_fits_40 rfl (lv_at hl 0 rfl) ?_
        refine gf_M_48 hF hT hK hP m0 rfl d_M_fits_41 ?_
        refine lv_if_le (tgt := 49) hx hb d_M_fits_44 (by decide) (fun c7 => ?_) (fun c7 => ?_)
        · have c7 := (nI_leI (a := 2) (b := 0) (by omega) (by omega)).mp c7
          exfalso; omega
        · have c7 : ¬ (2 ≤ 0) := fun z => c7 ((nI_leI (a := 2) (b := 0) (by omega) (by omega)).mpr z)
          refine lv_iconst (v := nI 0) hx hb d_M_fits_47 (by decide) ?_
          exact gw_zret hx hb hr hlocks hK hP hD hS (Nat.le_of_ble_eq_true rfl) (Nat.le_of_ble_eq_true rfl) rfl d_M_fits_48 ⟨⟨_, Or.inr (Or.inl ⟨⟨hq_x, hq_y⟩, fun q => q.1 c6, rfl⟩), ⟨_, _, _, _, m0, mR, mE, mD, mO, mM, mP, mA, mB, mC, mL⟩⟩, hfr⟩
      · refine lv_iload_n hx hb d_M_fits_26 rfl (lv_at hl 3 rfl) ?_
        refine lv_bipush (v := nI 62) hx hb d_M_fits_27 (by decide) ?_
        refine lv_icmp_le (tgt := 36) hx hb d_M_fits_29 (by decide) (fun c8 => ?_) (fun c8 => ?_)
        · refine lv_iconst (v := nI 0) hx hb d_M_fits_36 (by decide) ?_
          refine gp_M_48 hF hT hK hP hD hS (fs1 := [.int (nI 0), .int (nI N), .ref (A 1), .ref (A 2), .ref (A 3), .ref (A 4), .ref (A 5), .ref (A 6), .int (nI nm), .ref (A 7), .ref (A 8), .ref (A 9), .ref (A 10)]) m0 rfl rfl (Nat.le_of_ble_eq_true rfl) rfl d_M_fits_37 (fun w H locs m0 hf hP hD hS => ?_)
          have mR := hf.at mR (by omega)
          have mE := hf.at mE (by omega)
          have mD := hf.at mD (by omega)
          have mO := hf.at mO (by omega)
          have mM := hf.at mM (by omega)
          have mP := hf.at mP (by omega)
          have mA := hf.at mA (by omega)
          have mB := hf.at mB (by omega)
          have mC := hf.at mC (by omega)
          have mL := hf.at mL (by omega)
          have hfr := hfr.in hf (by omega) (by omega)
          refine lv_aload_n hx hb d_M_fits_40 rfl (lv_at hl 0 rfl) ?_
          refine gf_M_48 hF hT hK hP m0 rfl d_M_fits_41 ?_
          refine lv_if_le (tgt := 49) hx hb d_M_fits_44 (by decide) (fun c9 => ?_) (fun c9 => ?_)
          · have c9 := (nI_leI (a := 0) (b := 0) (by omega) (by omega)).mp c9
            refine lv_aload_n hx hb d_M_fits_49 rfl (lv_at hl 0 rfl) ?_
            refine lv_iload_n hx hb d_M_fits_50 rfl (lv_at hl 1 rfl) ?_
            refine gw_ci (gc_M_98 (As := [.int (nI k)]) (rest := []) hF hT (c_M_closeShape m0 mR mE mD hN1 hN5 (u := k) (by omega) (hF1 k hk)) ⟨(Nat.le_of_ble_eq_true rfl), (Nat.le_of_ble_eq_true rfl)⟩ rfl rfl hK hN hP hD m0 rfl hl.1 rfl (Nat.le_of_ble_eq_true rfl) d_M_fits_51 ⟨(Nat.le_of_ble_eq_true rfl), (Nat.le_of_ble_eq_true rfl)⟩) hD hS hA (fun r10 w H locs hw hP hD hS => ?_)
            obtain ⟨⟨F11, mD, h_r10⟩, hf⟩ := hw
            have m0 := hf.at m0 (by omega)
            have mR := hf.at mR (by omega)
            have mE := hf.at mE (by omega)
            have mO := hf.at mO (by omega)
            have mM := hf.at mM (by omega)
            have mP := hf.at mP (by omega)
            have mA := hf.at mA (by omega)
            have mB := hf.at mB (by omega)
            have mC := hf.at mC (by omega)
            have mL := hf.at mL (by omega)
            have hfr := hfr.in hf (by omega) (by omega)
            refine lv_if_ne (tgt := 59) hx hb d_M_fits_54 (by decide) (fun c12 => ?_) (fun c12 => ?_)
            · obtain ⟨hE51, _, hag51⟩ := h_r10.y c12
              refine lv_lconst (v := 1) hx hb d_M_fits_59 rfl ?_
              refine lv_iload_n hx hb d_M_fits_60 rfl (lv_at hl 3 rfl) ?_
              refine lv_iconst (v := nI 1) hx hb d_M_fits_61 (by decide) ?_
              refine lv_isub hx hb d_M_fits_62 ?_
              refine lv_lshl (v := (1 : Int64) <<< ((z - (nI 1)).toInt64 &&& 63)) hx hb d_M_fits_63 rfl ?_
              refine lv_lstore (lv' := [(4, .long ((1 : Int64) <<< ((z - (nI 1)).toInt64 &&& 63))), (0, .ref (A 0)), (1, .int (nI k)), (2, .int y), (3, .int z)]) hx hb d_M_fits_64 hl (by decide) rfl (fun ls hl => ?_)
              refine lv_aload_n hx hb d_M_fits_66 rfl (lv_at hl 1 rfl) ?_
              refine lv_iload_n hx hb d_M_fits_67 rfl (lv_at hl 3 rfl) ?_
              refine lv_iconst (v := nI 0) hx hb d_M_fits_68 (by decide) ?_
              refine gw_cl0 (gc_M_104 (As := [.int y, .int (nI 0)]) (rest := []) hF hT (c_M_boundOf m0 mD hN1 hN5 hag51 ht_y lr_tm0) ⟨(Nat.le_of_ble_eq_true rfl), (Nat.le_of_ble_eq_true rfl)⟩ rfl rfl hK hN hP hD m0 rfl hl.1 rfl (Nat.le_of_ble_eq_true rfl) d_M_fits_69 ⟨(Nat.le_of_ble_eq_true rfl), (Nat.le_of_ble_eq_true rfl)⟩) hD hS hA (fun r13 H locs e_r13 hP hD hS => ?_)
              subst e_r13
              refine lv_lload hx hb d_M_fits_72 (lv_at hl 0 rfl) ?_
              refine lv_lconst (v := 1) hx hb d_M_fits_74 rfl ?_
              refine lv_lsub hx hb d_M_fits_75 ?_
              refine gx_lgt (tgt := 97) hx hb d_M_fits_76 d_M_fits_77 (by decide) (fun c14 => ?_) (fun c14 => ?_)
              · refine lv_iconst (v := nI 0) hx hb d_M_fits_97 (by decide) ?_
                exact gw_zret hx hb hr hlocks hK hP hD hS (Nat.le_of_ble_eq_true rfl) (Nat.le_of_ble_eq_true rfl) rfl d_M_fits_98 ⟨⟨_, Or.inr (Or.inr ⟨k, hk, ek, hq_y, ⟨c6, c8⟩, rfl, Or.inr ⟨hE51, Or.inr ⟨fun q => Int64.not_lt.mpr q.1 c14, rfl⟩⟩⟩), ⟨_, _, _, _, m0, mR, mE, mD, mO, mM, mP, mA, mB, mC, mL⟩⟩, hfr⟩
              · refine lv_aload_n hx hb d_M_fits_80 rfl (lv_at hl 1 rfl) ?_
                refine lv_iload_n hx hb d_M_fits_81 rfl (lv_at hl 3 rfl) ?_
                refine lv_ineg hx hb d_M_fits_82 ?_
                refine lv_iconst (v := nI 0) hx hb d_M_fits_83 (by decide) ?_
                refine gw_cl0 (gc_M_104 (As := [.int (-y), .int (nI 0)]) (rest := []) hF hT (c_M_boundOf m0 mD hN1 hN5 hag51 (lr_tm_neg (by omega) ht_y) lr_tm0) ⟨(Nat.le_of_ble_eq_true rfl), (Nat.le_of_ble_eq_true rfl)⟩ rfl rfl hK hN hP hD m0 rfl hl.1 rfl (Nat.le_of_ble_eq_true rfl) d_M_fits_84 ⟨(Nat.le_of_ble_eq_true rfl), (Nat.le_of_ble_eq_true rfl)⟩) hD hS hA (fun r15 H locs e_r15 hP hD hS => ?_)
                subst e_r15
                refine lv_lload hx hb d_M_fits_87 (lv_at hl 0 rfl) ?_
                refine gx_lgt (tgt := 97) hx hb d_M_fits_89 d_M_fits_90 (by decide) (fun c16 => ?_) (fun c16 => ?_)
                · refine lv_iconst (v := nI 0) hx hb d_M_fits_97 (by decide) ?_
                  exact gw_zret hx hb hr hlocks hK hP hD hS (Nat.le_of_ble_eq_true rfl) (Nat.le_of_ble_eq_true rfl) rfl d_M_fits_98 ⟨⟨_, Or.inr (Or.inr ⟨k, hk, ek, hq_y, ⟨c6, c8⟩, rfl, Or.inr ⟨hE51, Or.inr ⟨fun q => Int64.not_lt.mpr q.2 c16, rfl⟩⟩⟩), ⟨_, _, _, _, m0, mR, mE, mD, mO, mM, mP, mA, mB, mC, mL⟩⟩, hfr⟩
                · refine lv_iconst (v := nI 1) hx hb d_M_fits_93 (by decide) ?_
                  refine lv_goto (tgt := 98) hx hb d_M_fits_94 (by decide) ?_
                  exact gw_zret hx hb hr hlocks hK hP hD hS (Nat.le_of_ble_eq_true rfl) (Nat.le_of_ble_eq_true rfl) rfl d_M_fits_98 ⟨⟨_, Or.inr (Or.inr ⟨k, hk, ek, hq_y, ⟨c6, c8⟩, rfl, Or.inr ⟨hE51, Or.inl ⟨⟨Int64.not_lt.mp c14, Int64.not_lt.mp c16⟩, rfl⟩⟩⟩), ⟨_, _, _, _, m0, mR, mE, mD, mO, mM, mP, mA, mB, mC, mL⟩⟩, hfr⟩
            · have hE51 := h_r10.n c12
              refine lv_iconst (v := nI 1) hx hb d_M_fits_57 (by decide) ?_
              exact gw_zret hx hb hr hlocks hK hP hD hS (Nat.le_of_ble_eq_true rfl) (Nat.le_of_ble_eq_true rfl) rfl d_M_fits_58 ⟨⟨_, Or.inr (Or.inr ⟨k, hk, ek, hq_y, ⟨c6, c8⟩, rfl, Or.inl ⟨hE51, rfl⟩⟩), ⟨_, _, _, _, m0, mR, mE, mD, mO, mM, mP, mA, mB, mC, mL⟩⟩, hfr⟩
          · have c9 : ¬ (0 ≤ 0) := fun z => c9 ((nI_leI (a := 0) (b := 0) (by omega) (by omega)).mpr z)
            exfalso; omega
        · refine lv_iconst (v := nI 2) hx hb d_M_fits_32 (by decide) ?_
          refine lv_goto (tgt := 37) hx hb d_M_fits_33 (by decide) ?_
          refine gp_M_48 hF hT hK hP hD hS (fs1 := [.int (nI 2), .int (nI N), .ref (A 1), .ref (A 2), .ref (A 3), .ref (A 4), .ref (A 5), .ref (A 6), .int (nI nm), .ref (A 7), .ref (A 8), .ref (A 9), .ref (A 10)]) m0 rfl rfl (Nat.le_of_ble_eq_true rfl) rfl d_M_fits_37 (fun w H locs m0 hf hP hD hS => ?_)
          have mR := hf.at mR (by omega)
          have mE := hf.at mE (by omega)
          have mD := hf.at mD (by omega)
          have mO := hf.at mO (by omega)
          have mM := hf.at mM (by omega)
          have mP := hf.at mP (by omega)
          have mA := hf.at mA (by omega)
          have mB := hf.at mB (by omega)
          have mC := hf.at mC (by omega)
          have mL := hf.at mL (by omega)
          have hfr := hfr.in hf (by omega) (by omega)
          refine lv_aload_n hx hb d_M_fits_40 rfl (lv_at hl 0 rfl) ?_
          refine gf_M_48 hF hT hK hP m0 rfl d_M_fits_41 ?_
          refine lv_if_le (tgt := 49) hx hb d_M_fits_44 (by decide) (fun c17 => ?_) (fun c17 => ?_)
          · have c17 := (nI_leI (a := 2) (b := 0) (by omega) (by omega)).mp c17
            exfalso; omega
          · have c17 : ¬ (2 ≤ 0) := fun z => c17 ((nI_leI (a := 2) (b := 0) (by omega) (by omega)).mpr z)
            refine lv_iconst (v := nI 0) hx hb d_M_fits_47 (by decide) ?_
            exact gw_zret hx hb hr hlocks hK hP hD hS (Nat.le_of_ble_eq_true rfl) (Nat.le_of_ble_eq_true rfl) rfl d_M_fits_48 ⟨⟨_, Or.inr (Or.inl ⟨⟨hq_x, hq_y⟩, fun q => c8 q.2, rfl⟩), ⟨_, _, _, _, m0, mR, mE, mD, mO, mM, mP, mA, mB, mC, mL⟩⟩, hfr⟩
    · refine lv_iconst (v := nI 1) hx hb d_M_fits_17 (by decide) ?_
      refine lv_goto (tgt := 37) hx hb d_M_fits_18 (by decide) ?_
      refine gp_M_48 hF hT hK hP hD hS (fs1 := [.int (nI 1), .int (nI N), .ref (A 1), .ref (A 2), .ref (A 3), .ref (A 4), .ref (A 5), .ref (A 6), .int (nI nm), .ref (A 7), .ref (A 8), .ref (A 9), .ref (A 10)]) m0 rfl rfl (Nat.le_of_ble_eq_true rfl) rfl d_M_fits_37 (fun w H locs m0 hf hP hD hS => ?_)
      have mR := hf.at mR (by omega)
      have mE := hf.at mE (by omega)
      have mD := hf.at mD (by omega)
      have mO := hf.at mO (by omega)
      have mM := hf.at mM (by omega)
      have mP := hf.at mP (by omega)
      have mA := hf.at mA (by omega)
      have mB := hf.at mB (by omega)
      have mC := hf.at mC (by omega)
      have mL := hf.at mL (by omega)
      have hfr := hfr.in hf (by omega) (by omega)
      refine lv_aload_n hx hb d_M_fits_40 rfl (lv_at hl 0 rfl) ?_
      refine gf_M_48 hF hT hK hP m0 rfl d_M_fits_41 ?_
      refine lv_if_le (tgt := 49) hx hb d_M_fits_44 (by decide) (fun c18 => ?_) (fun c18 => ?_)
      · have c18 := (nI_leI (a := 1) (b := 0) (by omega) (by omega)).mp c18
        exfalso; omega
      · have c18 : ¬ (1 ≤ 0) := fun z => c18 ((nI_leI (a := 1) (b := 0) (by omega) (by omega)).mpr z)
        refine lv_iconst (v := nI 0) hx hb d_M_fits_47 (by decide) ?_
        exact gw_zret hx hb hr hlocks hK hP hD hS (Nat.le_of_ble_eq_true rfl) (Nat.le_of_ble_eq_true rfl) rfl d_M_fits_48 ⟨⟨_, Or.inl ⟨fun q => gb_t e_r4 c5 q.2, rfl⟩, ⟨_, _, _, _, m0, mR, mE, mD, mO, mM, mP, mA, mB, mC, mL⟩⟩, hfr⟩

set_option maxHeartbeats 4000000 in
set_option maxRecDepth 100000 in
theorem c_M_array {l : Launch} {D : va_G} {cJ cI cZ cS : ClassId} {ws : va_W} {sz : Nat} {b N nm : Nat} {A : Nat → Nat} {th : Int32} {R Pt nC : Nat → Int64} {Em nA nB : Nat → Int32} (hM : mS cJ cI cZ ws b A N th nm R Em Pt nA nB nC) (hN1 : 1 ≤ N) (hN5 : N ≤ 5) {CF : Nat → Nat → Nat → Int64} (hF1 : lm_F N R Em CF) {o : Option (Nat → Nat → Int64)} {x y z : Int32} (hc : ∀ k k1 k2, k < 8 → x = nI k → 1 ≤ k1 → k1 ≤ N → y = nI k1 → 1 ≤ k2 → k2 ≤ N → z = nI k2 → ¬ k1 = k2 → Em k = 0 → lm_Cl N (lm_arX (CF k) k1 k2) o) : Met l y_M_array w_M_array ({ frames := 4, cells := 0, slots := 0, locals := 71 } : Room) (gw_Pc D classes (gT cJ cI cZ cS) [.ref (A 0), .int x, .int y, .int z] ws sz) (va_Qi (fun r w => (∃ th', ((¬ (okS x ∧ okN N y ∧ okN N z ∧ ¬ y = z) ∧ th' = nI 1) ∨ (∃ k k1 k2, k < 8 ∧ x = nI k ∧ 1 ≤ k1 ∧ k1 ≤ N ∧ y = nI k1 ∧ 1 ≤ k2 ∧ k2 ≤ N ∧ z = nI k2 ∧ ¬ k1 = k2 ∧ th' = nI 0 ∧ ((¬ Em k = 0 ∧ r = nI 1) ∨ (Em k = 0 ∧ (((lm_bd (CF k) (-nI k1) (nI 0) ≤ 0 ∧ lm_bd (CF k) (nI k1) (-nI k2) ≤ -1) ∧ r = nI 1) ∨ (¬ (lm_bd (CF k) (-nI k1) (nI 0) ≤ 0 ∧ lm_bd (CF k) (nI k1) (-nI k2) ≤ -1) ∧ (((∃ Y, o = some Y) ∧ r = nI 0) ∨ (o = none ∧ r = -1)))))))) ∧ mS cJ cI cZ w b A N th' nm R Em Pt nA nB nC) ∧ gF b (b + 11) ws w) (gw_B D classes (gT cJ cI cZ cS) ws sz) (va_A ws sz)) 0 0 (va_A ws sz) := by
  refine gw_head (by decide) (Nat.le_of_ble_eq_true rfl) (fun p e s m below meth c hsz hx hb hr hlocks hml hown hnm hts hK hN hP hD hS hA ls hl => ?_)
  have hown : s.vm.findClass R_M = some m.cls := hown
  have hT : ∀ w ∈ wG, w ∈ Cond.code y_M_array b_M_array 4 (some .int) :: wG := gd_t _
  have hF : CallFix p m c b_M_array 4 s ([.ref (A 0), .int x, .int y, .int z] : List Value).toArray (Cond.code y_M_array b_M_array 4 (some .int) :: wG) R_M := ⟨hx, hb, hml, hown, hts⟩
  have hl : lv_has ls 4 [(0, .ref (A 0)), (1, .int x), (2, .int y), (3, .int z)] := hl
  obtain ⟨D0, O, Md, Lf, m0, mR, mE, mD, mO, mM, mP, mA, mB, mC, mL⟩ := hM
  have hfr : gF b (b + 11) ws ws := gF.rf
  refine lv_aload_n hx hb d_M_array_0 rfl (lv_at hl 0 rfl) ?_
  refine lv_aload_n hx hb d_M_array_1 rfl (lv_at hl 0 rfl) ?_
  refine lv_iload_n hx hb d_M_array_2 rfl (lv_at hl 1 rfl) ?_
  refine gw_ci0 (gc_M_83 (As := [.int x]) (rest := [.ref (A 0)]) hF hT (c_M_isShape m0 hN1 hN5) ⟨(Nat.le_of_ble_eq_true rfl), (Nat.le_of_ble_eq_true rfl)⟩ rfl rfl hK hN hP hD m0 rfl hl.1 rfl (Nat.le_of_ble_eq_true rfl) d_M_array_3 ⟨(Nat.le_of_ble_eq_true rfl), (Nat.le_of_ble_eq_true rfl)⟩) hD hS hA (fun r1 H locs e_r1 hP hD hS => ?_)
  refine lv_if_eq (tgt := 34) hx hb d_M_array_6 (by decide) (fun c2 => ?_) (fun c2 => ?_)
  · refine lv_iconst (v := nI 1) hx hb d_M_array_34 (by decide) ?_
    refine gp_M_48 hF hT hK hP hD hS (fs1 := [.int (nI 1), .int (nI N), .ref (A 1), .ref (A 2), .ref (A 3), .ref (A 4), .ref (A 5), .ref (A 6), .int (nI nm), .ref (A 7), .ref (A 8), .ref (A 9), .ref (A 10)]) m0 rfl rfl (Nat.le_of_ble_eq_true rfl) rfl d_M_array_35 (fun w H locs m0 hf hP hD hS => ?_)
    have mR := hf.at mR (by omega)
    have mE := hf.at mE (by omega)
    have mD := hf.at mD (by omega)
    have mO := hf.at mO (by omega)
    have mM := hf.at mM (by omega)
    have mP := hf.at mP (by omega)
    have mA := hf.at mA (by omega)
    have mB := hf.at mB (by omega)
    have mC := hf.at mC (by omega)
    have mL := hf.at mL (by omega)
    have hfr := hfr.in hf (by omega) (by omega)
    refine lv_aload_n hx hb d_M_array_38 rfl (lv_at hl 0 rfl) ?_
    refine gf_M_48 hF hT hK hP m0 rfl d_M_array_39 ?_
    refine lv_if_le (tgt := 47) hx hb d_M_array_42 (by decide) (fun c3 => ?_) (fun c3 => ?_)
    · have c3 := (nI_leI (a := 1) (b := 0) (by omega) (by omega)).mp c3
      exfalso; omega
    · have c3 : ¬ (1 ≤ 0) := fun z => c3 ((nI_leI (a := 1) (b := 0) (by omega) (by omega)).mpr z)
      refine lv_iconst (v := nI 0) hx hb d_M_array_45 (by decide) ?_
      exact gw_iret hx hb hr hlocks hK hP hD hS (Nat.le_of_ble_eq_true rfl) (Nat.le_of_ble_eq_true rfl) d_M_array_46 ⟨⟨_, Or.inl ⟨fun q => gb_t e_r1 c2 q.1, rfl⟩, ⟨_, _, _, _, m0, mR, mE, mD, mO, mM, mP, mA, mB, mC, mL⟩⟩, hfr⟩
  · have hq_x := gb_f e_r1 c2
    obtain ⟨k, hk, ek⟩ := hq_x.k
    rw [ek] at hl
    refine lv_aload_n hx hb d_M_array_9 rfl (lv_at hl 0 rfl) ?_
    refine lv_iload_n hx hb d_M_array_10 rfl (lv_at hl 2 rfl) ?_
    refine gw_ci0 (gc_M_132 (As := [.int y]) (rest := [.ref (A 0)]) hF hT (c_M_isName m0 hN1 hN5) ⟨(Nat.le_of_ble_eq_true rfl), (Nat.le_of_ble_eq_true rfl)⟩ rfl rfl hK hN hP hD m0 rfl hl.1 rfl (Nat.le_of_ble_eq_true rfl) d_M_array_11 ⟨(Nat.le_of_ble_eq_true rfl), (Nat.le_of_ble_eq_true rfl)⟩) hD hS hA (fun r4 H locs e_r4 hP hD hS => ?_)
    refine lv_if_eq (tgt := 34) hx hb d_M_array_14 (by decide) (fun c5 => ?_) (fun c5 => ?_)
    · refine lv_iconst (v := nI 1) hx hb d_M_array_34 (by decide) ?_
      refine gp_M_48 hF hT hK hP hD hS (fs1 := [.int (nI 1), .int (nI N), .ref (A 1), .ref (A 2), .ref (A 3), .ref (A 4), .ref (A 5), .ref (A 6), .int (nI nm), .ref (A 7), .ref (A 8), .ref (A 9), .ref (A 10)]) m0 rfl rfl (Nat.le_of_ble_eq_true rfl) rfl d_M_array_35 (fun w H locs m0 hf hP hD hS => ?_)
      have mR := hf.at mR (by omega)
      have mE := hf.at mE (by omega)
      have mD := hf.at mD (by omega)
      have mO := hf.at mO (by omega)
      have mM := hf.at mM (by omega)
      have mP := hf.at mP (by omega)
      have mA := hf.at mA (by omega)
      have mB := hf.at mB (by omega)
      have mC := hf.at mC (by omega)
      have mL := hf.at mL (by omega)
      have hfr := hfr.in hf (by omega) (by omega)
      refine lv_aload_n hx hb d_M_array_38 rfl (lv_at hl 0 rfl) ?_
      refine gf_M_48 hF hT hK hP m0 rfl d_M_array_39 ?_
      refine lv_if_le (tgt := 47) hx hb d_M_array_42 (by decide) (fun c6 => ?_) (fun c6 => ?_)
      · have c6 := (nI_leI (a := 1) (b := 0) (by omega) (by omega)).mp c6
        exfalso; omega
      · have c6 : ¬ (1 ≤ 0) := fun z => c6 ((nI_leI (a := 1) (b := 0) (by omega) (by omega)).mpr z)
        refine lv_iconst (v := nI 0) hx hb d_M_array_45 (by decide) ?_
        exact gw_iret hx hb hr hlocks hK hP hD hS (Nat.le_of_ble_eq_true rfl) (Nat.le_of_ble_eq_true rfl) d_M_array_46 ⟨⟨_, Or.inl ⟨fun q => gb_t e_r4 c5 q.2.1, rfl⟩, ⟨_, _, _, _, m0, mR, mE, mD, mO, mM, mP, mA, mB, mC, mL⟩⟩, hfr⟩
    · have hq_y := gb_f e_r4 c5
      obtain ⟨k1, hk1, hk15, ek1⟩ := hq_y.k hN5
      have ht_y := hq_y.tm hN5
      rw [ek1] at hl ht_y
      refine lv_aload_n hx hb d_M_array_17 rfl (lv_at hl 0 rfl) ?_
      refine lv_iload_n hx hb d_M_array_18 rfl (lv_at hl 3 rfl) ?_
      refine gw_ci0 (gc_M_132 (As := [.int z]) (rest := [.ref (A 0)]) hF hT (c_M_isName m0 hN1 hN5) ⟨(Nat.le_of_ble_eq_true rfl), (Nat.le_of_ble_eq_true rfl)⟩ rfl rfl hK hN hP hD m0 rfl hl.1 rfl (Nat.le_of_ble_eq_true rfl) d_M_array_19 ⟨(Nat.le_of_ble_eq_true rfl), (Nat.le_of_ble_eq_true rfl)⟩) hD hS hA (fun r7 H locs e_r7 hP hD hS => ?_)
      refine lv_if_eq (tgt := 34) hx hb d_M_array_22 (by decide) (fun c8 => ?_) (fun c8 => ?_)
      · refine lv_iconst (v := nI 1) hx hb d_M_array_34 (by decide) ?_
        refine gp_M_48 hF hT hK hP hD hS (fs1 := [.int (nI 1), .int (nI N), .ref (A 1), .ref (A 2), .ref (A 3), .ref (A 4), .ref (A 5), .ref (A 6), .int (nI nm), .ref (A 7), .ref (A 8), .ref (A 9), .ref (A 10)]) m0 rfl rfl (Nat.le_of_ble_eq_true rfl) rfl d_M_array_35 (fun w H locs m0 hf hP hD hS => ?_)
        have mR := hf.at mR (by omega)
        have mE := hf.at mE (by omega)
        have mD := hf.at mD (by omega)
        have mO := hf.at mO (by omega)
        have mM := hf.at mM (by omega)
        have mP := hf.at mP (by omega)
        have mA := hf.at mA (by omega)
        have mB := hf.at mB (by omega)
        have mC := hf.at mC (by omega)
        have mL := hf.at mL (by omega)
        have hfr := hfr.in hf (by omega) (by omega)
        refine lv_aload_n hx hb d_M_array_38 rfl (lv_at hl 0 rfl) ?_
        refine gf_M_48 hF hT hK hP m0 rfl d_M_array_39 ?_
        refine lv_if_le (tgt := 47) hx hb d_M_array_42 (by decide) (fun c9 => ?_) (fun c9 => ?_)
        · have c9 := (nI_leI (a := 1) (b := 0) (by omega) (by omega)).mp c9
          exfalso; omega
        · have c9 : ¬ (1 ≤ 0) := fun z => c9 ((nI_leI (a := 1) (b := 0) (by omega) (by omega)).mpr z)
          refine lv_iconst (v := nI 0) hx hb d_M_array_45 (by decide) ?_
          exact gw_iret hx hb hr hlocks hK hP hD hS (Nat.le_of_ble_eq_true rfl) (Nat.le_of_ble_eq_true rfl) d_M_array_46 ⟨⟨_, Or.inl ⟨fun q => gb_t e_r7 c8 q.2.2.1, rfl⟩, ⟨_, _, _, _, m0, mR, mE, mD, mO, mM, mP, mA, mB, mC, mL⟩⟩, hfr⟩
      · have hq_z := gb_f e_r7 c8
        obtain ⟨k2, hk2, hk25, ek2⟩ := hq_z.k hN5
        have ht_z := hq_z.tm hN5
        rw [ek2] at hl ht_z
        refine lv_iload_n hx hb d_M_array_25 rfl (lv_at hl 2 rfl) ?_
        refine lv_iload_n hx hb d_M_array_26 rfl (lv_at hl 3 rfl) ?_
        refine lv_icmp_eq (tgt := 34) hx hb d_M_array_27 (by decide) (fun c10 => ?_) (fun c10 => ?_)
        · have c10 := (nI_eq (a := k1) (b := k2) (by omega) (by omega)).mp c10
          refine lv_iconst (v := nI 1) hx hb d_M_array_34 (by decide) ?_
          refine gp_M_48 hF hT hK hP hD hS (fs1 := [.int (nI 1), .int (nI N), .ref (A 1), .ref (A 2), .ref (A 3), .ref (A 4), .ref (A 5), .ref (A 6), .int (nI nm), .ref (A 7), .ref (A 8), .ref (A 9), .ref (A 10)]) m0 rfl rfl (Nat.le_of_ble_eq_true rfl) rfl d_M_array_35 (fun w H locs m0 hf hP hD hS => ?_)
          have mR := hf.at mR (by omega)
          have mE := hf.at mE (by omega)
          have mD := hf.at mD (by omega)
          have mO := hf.at mO (by omega)
          have mM := hf.at mM (by omega)
          have mP := hf.at mP (by omega)
          have mA := hf.at mA (by omega)
          have mB := hf.at mB (by omega)
          have mC := hf.at mC (by omega)
          have mL := hf.at mL (by omega)
          have hfr := hfr.in hf (by omega) (by omega)
          refine lv_aload_n hx hb d_M_array_38 rfl (lv_at hl 0 rfl) ?_
          refine gf_M_48 hF hT hK hP m0 rfl d_M_array_39 ?_
          refine lv_if_le (tgt := 47) hx hb d_M_array_42 (by decide) (fun c11 => ?_) (fun c11 => ?_)
          · have c11 := (nI_leI (a := 1) (b := 0) (by omega) (by omega)).mp c11
            exfalso; omega
          · have c11 : ¬ (1 ≤ 0) := fun z => c11 ((nI_leI (a := 1) (b := 0) (by omega) (by omega)).mpr z)
            refine lv_iconst (v := nI 0) hx hb d_M_array_45 (by decide) ?_
            exact gw_iret hx hb hr hlocks hK hP hD hS (Nat.le_of_ble_eq_true rfl) (Nat.le_of_ble_eq_true rfl) d_M_array_46 ⟨⟨_, Or.inl ⟨fun q => q.2.2.2 (by rw [ek1, ek2, c10]), rfl⟩, ⟨_, _, _, _, m0, mR, mE, mD, mO, mM, mP, mA, mB, mC, mL⟩⟩, hfr⟩
        · have c10 : ¬ (k1 = k2) := fun z => c10 ((nI_eq (a := k1) (b := k2) (by omega) (by omega)).mpr z)
          refine lv_iconst (v := nI 0) hx hb d_M_array_30 (by decide) ?_
          refine lv_goto (tgt := 35) hx hb d_M_array_31 (by decide) ?_
          refine gp_M_48 hF hT hK hP hD hS (fs1 := [.int (nI 0), .int (nI N), .ref (A 1), .ref (A 2), .ref (A 3), .ref (A 4), .ref (A 5), .ref (A 6), .int (nI nm), .ref (A 7), .ref (A 8), .ref (A 9), .ref (A 10)]) m0 rfl rfl (Nat.le_of_ble_eq_true rfl) rfl d_M_array_35 (fun w H locs m0 hf hP hD hS => ?_)
          have mR := hf.at mR (by omega)
          have mE := hf.at mE (by omega)
          have mD := hf.at mD (by omega)
          have mO := hf.at mO (by omega)
          have mM := hf.at mM (by omega)
          have mP := hf.at mP (by omega)
          have mA := hf.at mA (by omega)
          have mB := hf.at mB (by omega)
          have mC := hf.at mC (by omega)
          have mL := hf.at mL (by omega)
          have hfr := hfr.in hf (by omega) (by omega)
          refine lv_aload_n hx hb d_M_array_38 rfl (lv_at hl 0 rfl) ?_
          refine gf_M_48 hF hT hK hP m0 rfl d_M_array_39 ?_
          refine lv_if_le (tgt := 47) hx hb d_M_array_42 (by decide) (fun c12 => ?_) (fun c12 => ?_)
          · have c12 := (nI_leI (a := 0) (b := 0) (by omega) (by omega)).mp c12
            refine lv_aload_n hx hb d_M_array_47 rfl (lv_at hl 0 rfl) ?_
            refine lv_iload_n hx hb d_M_array_48 rfl (lv_at hl 1 rfl) ?_
            refine gw_ci (gc_M_98 (As := [.int (nI k)]) (rest := []) hF hT (c_M_closeShape m0 mR mE mD hN1 hN5 (u := k) (by omega) (hF1 k hk)) ⟨(Nat.le_of_ble_eq_true rfl), (Nat.le_of_ble_eq_true rfl)⟩ rfl rfl hK hN hP hD m0 rfl hl.1 rfl (Nat.le_of_ble_eq_true rfl) d_M_array_49 ⟨(Nat.le_of_ble_eq_true rfl), (Nat.le_of_ble_eq_true rfl)⟩) hD hS hA (fun r13 w H locs hw hP hD hS => ?_)
            obtain ⟨⟨F14, mD, h_r13⟩, hf⟩ := hw
            have m0 := hf.at m0 (by omega)
            have mR := hf.at mR (by omega)
            have mE := hf.at mE (by omega)
            have mO := hf.at mO (by omega)
            have mM := hf.at mM (by omega)
            have mP := hf.at mP (by omega)
            have mA := hf.at mA (by omega)
            have mB := hf.at mB (by omega)
            have mC := hf.at mC (by omega)
            have mL := hf.at mL (by omega)
            have hfr := hfr.in hf (by omega) (by omega)
            refine lv_if_ne (tgt := 57) hx hb d_M_array_52 (by decide) (fun c15 => ?_) (fun c15 => ?_)
            · obtain ⟨hE49, _, hag49⟩ := h_r13.y c15
              refine lv_aload_n hx hb d_M_array_57 rfl (lv_at hl 0 rfl) ?_
              refine lv_iload_n hx hb d_M_array_58 rfl (lv_at hl 2 rfl) ?_
              refine lv_ineg hx hb d_M_array_59 ?_
              refine lv_iconst (v := nI 0) hx hb d_M_array_60 (by decide) ?_
              refine gw_cl0 (gc_M_104 (As := [.int (-(nI k1)), .int (nI 0)]) (rest := []) hF hT (c_M_boundOf m0 mD hN1 hN5 hag49 (lr_tm_neg (by omega) ht_y) lr_tm0) ⟨(Nat.le_of_ble_eq_true rfl), (Nat.le_of_ble_eq_true rfl)⟩ rfl rfl hK hN hP hD m0 rfl hl.1 rfl (Nat.le_of_ble_eq_true rfl) d_M_array_61 ⟨(Nat.le_of_ble_eq_true rfl), (Nat.le_of_ble_eq_true rfl)⟩) hD hS hA (fun r16 H locs e_r16 hP hD hS => ?_)
              subst e_r16
              refine lv_lconst (v := 0) hx hb d_M_array_64 rfl ?_
              refine gx_lgt (tgt := 85) hx hb d_M_array_65 d_M_array_66 (by decide) (fun c17 => ?_) (fun c17 => ?_)
              · refine lv_aload_n hx hb d_M_array_85 rfl (lv_at hl 0 rfl) ?_
                refine lv_iload_n hx hb d_M_array_86 rfl (lv_at hl 2 rfl) ?_
                refine lv_ineg hx hb d_M_array_87 ?_
                refine lv_iconst (v := nI 0) hx hb d_M_array_88 (by decide) ?_
                refine lv_lconst (v := 0) hx hb d_M_array_89 rfl ?_
                refine gw_cv (gc_M_142 (As := [.int (-(nI k1)), .int (nI 0), .long (0 : Int64)]) (rest := []) hF hT (c_M_addRow m0 mD hN1 hN5 hag49 (lr_tm_neg (by omega) ht_y) lr_tm0 (fun q => mI_nz hk1 (by omega) q.1)) ⟨(Nat.le_of_ble_eq_true rfl), (Nat.le_of_ble_eq_true rfl)⟩ rfl rfl hK hN hP hD m0 rfl hl.1 rfl (Nat.le_of_ble_eq_true rfl) d_M_array_90 ⟨(Nat.le_of_ble_eq_true rfl), (Nat.le_of_ble_eq_true rfl)⟩) hD hS hA (fun w H locs hw hP hD hS => ?_)
                obtain ⟨⟨F18, mD, ag19⟩, hf⟩ := hw
                have m0 := hf.at m0 (by omega)
                have mR := hf.at mR (by omega)
                have mE := hf.at mE (by omega)
                have mO := hf.at mO (by omega)
                have mM := hf.at mM (by omega)
                have mP := hf.at mP (by omega)
                have mA := hf.at mA (by omega)
                have mB := hf.at mB (by omega)
                have mC := hf.at mC (by omega)
                have mL := hf.at mL (by omega)
                have hfr := hfr.in hf (by omega) (by omega)
                refine lv_aload_n hx hb d_M_array_93 rfl (lv_at hl 0 rfl) ?_
                refine lv_iload_n hx hb d_M_array_94 rfl (lv_at hl 2 rfl) ?_
                refine lv_iload_n hx hb d_M_array_95 rfl (lv_at hl 3 rfl) ?_
                refine lv_ineg hx hb d_M_array_96 ?_
                refine lv_ldc2 (v := (-1 : Int64)) hx hb hown (hts _ (hT _ wm_4_96)) d_M_array_97 ?_
                refine gw_cv (gc_M_142 (As := [.int (nI k1), .int (-(nI k2)), .long (-1 : Int64)]) (rest := []) hF hT (c_M_addRow m0 mD hN1 hN5 ag19 ht_y (lr_tm_neg (by omega) ht_z) (fun q => nI_nz hk1 (by omega) q.1)) ⟨(Nat.le_of_ble_eq_true rfl), (Nat.le_of_ble_eq_true rfl)⟩ rfl rfl hK hN hP hD m0 rfl hl.1 rfl (Nat.le_of_ble_eq_true rfl) d_M_array_100 ⟨(Nat.le_of_ble_eq_true rfl), (Nat.le_of_ble_eq_true rfl)⟩) hD hS hA (fun w H locs hw hP hD hS => ?_)
                obtain ⟨⟨F20, mD, ag21⟩, hf⟩ := hw
                have m0 := hf.at m0 (by omega)
                have mR := hf.at mR (by omega)
                have mE := hf.at mE (by omega)
                have mO := hf.at mO (by omega)
                have mM := hf.at mM (by omega)
                have mP := hf.at mP (by omega)
                have mA := hf.at mA (by omega)
                have mB := hf.at mB (by omega)
                have mC := hf.at mC (by omega)
                have mL := hf.at mL (by omega)
                have hfr := hfr.in hf (by omega) (by omega)
                refine lv_aload_n hx hb d_M_array_103 rfl (lv_at hl 0 rfl) ?_
                refine gw_ci (gc_M_69 (As := []) (rest := []) hF hT (c_M_close m0 mD hN1 hN5 ag21 (hc k k1 k2 hk ek hk1 hk15 ek1 hk2 hk25 ek2 c10 hE49)) ⟨(Nat.le_of_ble_eq_true rfl), (Nat.le_of_ble_eq_true rfl)⟩ rfl rfl hK hN hP hD m0 rfl hl.1 rfl (Nat.le_of_ble_eq_true rfl) d_M_array_104 ⟨(Nat.le_of_ble_eq_true rfl), (Nat.le_of_ble_eq_true rfl)⟩) hD hS hA (fun r22 w H locs hw hP hD hS => ?_)
                obtain ⟨⟨F23, mD, h_r22⟩, hf⟩ := hw
                have m0 := hf.at m0 (by omega)
                have mR := hf.at mR (by omega)
                have mE := hf.at mE (by omega)
                have mO := hf.at mO (by omega)
                have mM := hf.at mM (by omega)
                have mP := hf.at mP (by omega)
                have mA := hf.at mA (by omega)
                have mB := hf.at mB (by omega)
                have mC := hf.at mC (by omega)
                have mL := hf.at mL (by omega)
                have hfr := hfr.in hf (by omega) (by omega)
                refine lv_if_eq (tgt := 114) hx hb d_M_array_107 (by decide) (fun c24 => ?_) (fun c24 => ?_)
                · refine lv_iconst (v := -1) hx hb d_M_array_114 (by decide) ?_
                  exact gw_iret hx hb hr hlocks hK hP hD hS (Nat.le_of_ble_eq_true rfl) (Nat.le_of_ble_eq_true rfl) d_M_array_115 ⟨⟨_, Or.inr ⟨k, k1, k2, hk, ek, hk1, hk15, ek1, hk2, hk25, ek2, c10, rfl, Or.inr ⟨hE49, Or.inr ⟨fun q => Int64.not_lt.mpr q.1 c17, Or.inr ⟨h_r22.n c24, rfl⟩⟩⟩⟩, ⟨_, _, _, _, m0, mR, mE, mD, mO, mM, mP, mA, mB, mC, mL⟩⟩, hfr⟩
                · refine lv_iconst (v := nI 0) hx hb d_M_array_110 (by decide) ?_
                  refine lv_goto (tgt := 115) hx hb d_M_array_111 (by decide) ?_
                  exact gw_iret hx hb hr hlocks hK hP hD hS (Nat.le_of_ble_eq_true rfl) (Nat.le_of_ble_eq_true rfl) d_M_array_115 ⟨⟨_, Or.inr ⟨k, k1, k2, hk, ek, hk1, hk15, ek1, hk2, hk25, ek2, c10, rfl, Or.inr ⟨hE49, Or.inr ⟨fun q => Int64.not_lt.mpr q.1 c17, Or.inl ⟨by obtain ⟨_, Y, hY, _⟩ := h_r22.y c24; exact ⟨Y, hY⟩, rfl⟩⟩⟩⟩, ⟨_, _, _, _, m0, mR, mE, mD, mO, mM, mP, mA, mB, mC, mL⟩⟩, hfr⟩
              · refine lv_aload_n hx hb d_M_array_69 rfl (lv_at hl 0 rfl) ?_
                refine lv_iload_n hx hb d_M_array_70 rfl (lv_at hl 2 rfl) ?_
                refine lv_iload_n hx hb d_M_array_71 rfl (lv_at hl 3 rfl) ?_
                refine lv_ineg hx hb d_M_array_72 ?_
                refine gw_cl0 (gc_M_104 (As := [.int (nI k1), .int (-(nI k2))]) (rest := []) hF hT (c_M_boundOf m0 mD hN1 hN5 hag49 ht_y (lr_tm_neg (by omega) ht_z)) ⟨(Nat.le_of_ble_eq_true rfl), (Nat.le_of_ble_eq_true rfl)⟩ rfl rfl hK hN hP hD m0 rfl hl.1 rfl (Nat.le_of_ble_eq_true rfl) d_M_array_73 ⟨(Nat.le_of_ble_eq_true rfl), (Nat.le_of_ble_eq_true rfl)⟩) hD hS hA (fun r25 H locs e_r25 hP hD hS => ?_)
                subst e_r25
                refine lv_ldc2 (v := (-1 : Int64)) hx hb hown (hts _ (hT _ wm_4_96)) d_M_array_76 ?_
                refine gx_lgt (tgt := 85) hx hb d_M_array_79 d_M_array_80 (by decide) (fun c26 => ?_) (fun c26 => ?_)
                · refine lv_aload_n hx hb d_M_array_85 rfl (lv_at hl 0 rfl) ?_
                  refine lv_iload_n hx hb d_M_array_86 rfl (lv_at hl 2 rfl) ?_
                  refine lv_ineg hx hb d_M_array_87 ?_
                  refine lv_iconst (v := nI 0) hx hb d_M_array_88 (by decide) ?_
                  refine lv_lconst (v := 0) hx hb d_M_array_89 rfl ?_
                  refine gw_cv (gc_M_142 (As := [.int (-(nI k1)), .int (nI 0), .long (0 : Int64)]) (rest := []) hF hT (c_M_addRow m0 mD hN1 hN5 hag49 (lr_tm_neg (by omega) ht_y) lr_tm0 (fun q => mI_nz hk1 (by omega) q.1)) ⟨(Nat.le_of_ble_eq_true rfl), (Nat.le_of_ble_eq_true rfl)⟩ rfl rfl hK hN hP hD m0 rfl hl.1 rfl (Nat.le_of_ble_eq_true rfl) d_M_array_90 ⟨(Nat.le_of_ble_eq_true rfl), (Nat.le_of_ble_eq_true rfl)⟩) hD hS hA (fun w H locs hw hP hD hS => ?_)
                  obtain ⟨⟨F27, mD, ag28⟩, hf⟩ := hw
                  have m0 := hf.at m0 (by omega)
                  have mR := hf.at mR (by omega)
                  have mE := hf.at mE (by omega)
                  have mO := hf.at mO (by omega)
                  have mM := hf.at mM (by omega)
                  have mP := hf.at mP (by omega)
                  have mA := hf.at mA (by omega)
                  have mB := hf.at mB (by omega)
                  have mC := hf.at mC (by omega)
                  have mL := hf.at mL (by omega)
                  have hfr := hfr.in hf (by omega) (by omega)
                  refine lv_aload_n hx hb d_M_array_93 rfl (lv_at hl 0 rfl) ?_
                  refine lv_iload_n hx hb d_M_array_94 rfl (lv_at hl 2 rfl) ?_
                  refine lv_iload_n hx hb d_M_array_95 rfl (lv_at hl 3 rfl) ?_
                  refine lv_ineg hx hb d_M_array_96 ?_
                  refine lv_ldc2 (v := (-1 : Int64)) hx hb hown (hts _ (hT _ wm_4_96)) d_M_array_97 ?_
                  refine gw_cv (gc_M_142 (As := [.int (nI k1), .int (-(nI k2)), .long (-1 : Int64)]) (rest := []) hF hT (c_M_addRow m0 mD hN1 hN5 ag28 ht_y (lr_tm_neg (by omega) ht_z) (fun q => nI_nz hk1 (by omega) q.1)) ⟨(Nat.le_of_ble_eq_true rfl), (Nat.le_of_ble_eq_true rfl)⟩ rfl rfl hK hN hP hD m0 rfl hl.1 rfl (Nat.le_of_ble_eq_true rfl) d_M_array_100 ⟨(Nat.le_of_ble_eq_true rfl), (Nat.le_of_ble_eq_true rfl)⟩) hD hS hA (fun w H locs hw hP hD hS => ?_)
                  obtain ⟨⟨F29, mD, ag30⟩, hf⟩ := hw
                  have m0 := hf.at m0 (by omega)
                  have mR := hf.at mR (by omega)
                  have mE := hf.at mE (by omega)
                  have mO := hf.at mO (by omega)
                  have mM := hf.at mM (by omega)
                  have mP := hf.at mP (by omega)
                  have mA := hf.at mA (by omega)
                  have mB := hf.at mB (by omega)
                  have mC := hf.at mC (by omega)
                  have mL := hf.at mL (by omega)
                  have hfr := hfr.in hf (by omega) (by omega)
                  refine lv_aload_n hx hb d_M_array_103 rfl (lv_at hl 0 rfl) ?_
                  refine gw_ci (gc_M_69 (As := []) (rest := []) hF hT (c_M_close m0 mD hN1 hN5 ag30 (hc k k1 k2 hk ek hk1 hk15 ek1 hk2 hk25 ek2 c10 hE49)) ⟨(Nat.le_of_ble_eq_true rfl), (Nat.le_of_ble_eq_true rfl)⟩ rfl rfl hK hN hP hD m0 rfl hl.1 rfl (Nat.le_of_ble_eq_true rfl) d_M_array_104 ⟨(Nat.le_of_ble_eq_true rfl), (Nat.le_of_ble_eq_true rfl)⟩) hD hS hA (fun r31 w H locs hw hP hD hS => ?_)
                  obtain ⟨⟨F32, mD, h_r31⟩, hf⟩ := hw
                  have m0 := hf.at m0 (by omega)
                  have mR := hf.at mR (by omega)
                  have mE := hf.at mE (by omega)
                  have mO := hf.at mO (by omega)
                  have mM := hf.at mM (by omega)
                  have mP := hf.at mP (by omega)
                  have mA := hf.at mA (by omega)
                  have mB := hf.at mB (by omega)
                  have mC := hf.at mC (by omega)
                  have mL := hf.at mL (by omega)
                  have hfr := hfr.in hf (by omega) (by omega)
                  refine lv_if_eq (tgt := 114) hx hb d_M_array_107 (by decide) (fun c33 => ?_) (fun c33 => ?_)
                  · refine lv_iconst (v := -1) hx hb d_M_array_114 (by decide) ?_
                    exact gw_iret hx hb hr hlocks hK hP hD hS (Nat.le_of_ble_eq_true rfl) (Nat.le_of_ble_eq_true rfl) d_M_array_115 ⟨⟨_, Or.inr ⟨k, k1, k2, hk, ek, hk1, hk15, ek1, hk2, hk25, ek2, c10, rfl, Or.inr ⟨hE49, Or.inr ⟨fun q => Int64.not_lt.mpr q.2 c26, Or.inr ⟨h_r31.n c33, rfl⟩⟩⟩⟩, ⟨_, _, _, _, m0, mR, mE, mD, mO, mM, mP, mA, mB, mC, mL⟩⟩, hfr⟩
                  · refine lv_iconst (v := nI 0) hx hb d_M_array_110 (by decide) ?_
                    refine lv_goto (tgt := 115) hx hb d_M_array_111 (by decide) ?_
                    exact gw_iret hx hb hr hlocks hK hP hD hS (Nat.le_of_ble_eq_true rfl) (Nat.le_of_ble_eq_true rfl) d_M_array_115 ⟨⟨_, Or.inr ⟨k, k1, k2, hk, ek, hk1, hk15, ek1, hk2, hk25, ek2, c10, rfl, Or.inr ⟨hE49, Or.inr ⟨fun q => Int64.not_lt.mpr q.2 c26, Or.inl ⟨by obtain ⟨_, Y, hY, _⟩ := h_r31.y c33; exact ⟨Y, hY⟩, rfl⟩⟩⟩⟩, ⟨_, _, _, _, m0, mR, mE, mD, mO, mM, mP, mA, mB, mC, mL⟩⟩, hfr⟩
                · refine lv_iconst (v := nI 1) hx hb d_M_array_83 (by decide) ?_
                  exact gw_iret hx hb hr hlocks hK hP hD hS (Nat.le_of_ble_eq_true rfl) (Nat.le_of_ble_eq_true rfl) d_M_array_84 ⟨⟨_, Or.inr ⟨k, k1, k2, hk, ek, hk1, hk15, ek1, hk2, hk25, ek2, c10, rfl, Or.inr ⟨hE49, Or.inl ⟨⟨Int64.not_lt.mp c17, Int64.not_lt.mp c26⟩, rfl⟩⟩⟩, ⟨_, _, _, _, m0, mR, mE, mD, mO, mM, mP, mA, mB, mC, mL⟩⟩, hfr⟩
            · have hE49 := h_r13.n c15
              refine lv_iconst (v := nI 1) hx hb d_M_array_55 (by decide) ?_
              exact gw_iret hx hb hr hlocks hK hP hD hS (Nat.le_of_ble_eq_true rfl) (Nat.le_of_ble_eq_true rfl) d_M_array_56 ⟨⟨_, Or.inr ⟨k, k1, k2, hk, ek, hk1, hk15, ek1, hk2, hk25, ek2, c10, rfl, Or.inl ⟨hE49, rfl⟩⟩, ⟨_, _, _, _, m0, mR, mE, mD, mO, mM, mP, mA, mB, mC, mL⟩⟩, hfr⟩
          · have c12 : ¬ (0 ≤ 0) := fun z => c12 ((nI_leI (a := 0) (b := 0) (by omega) (by omega)).mpr z)
            exfalso; omega

set_option maxHeartbeats 4000000 in
set_option maxRecDepth 100000 in
theorem c_M_told {l : Launch} {D : va_G} {cJ cI cZ cS : ClassId} {ws : va_W} {sz : Nat} {b N nm : Nat} {A : Nat → Nat} {th : Int32} {R Pt nC : Nat → Int64} {Em nA nB : Nat → Int32} (hM : mS cJ cI cZ ws b A N th nm R Em Pt nA nB nC) (hN1 : 1 ≤ N) (hN5 : N ≤ 5) {x : Int32} : Met l y_M_told w_M_told ({ frames := 1, cells := 0, slots := 0, locals := 0 } : Room) (gw_Pc D classes (gT cJ cI cZ cS) [.ref (A 0), .int x] ws sz) (va_Qi (fun r w => (∃ th', ((¬ okW x ∧ th' = nI 1) ∨ (∃ q, q ≤ 9 ∧ x = nI q ∧ th' = nI 0 ∧ ((q = 0 ∧ r = nI N) ∨ (q = 9 ∧ r = nI (lm_cntZ Em 8)) ∨ (1 ≤ q ∧ q ≤ 8 ∧ r = nI (lm_cntR R (q - 1) 10))))) ∧ mS cJ cI cZ w b A N th' nm R Em Pt nA nB nC) ∧ gF b (b + 11) ws w) (gw_B D classes (gT cJ cI cZ cS) ws sz) (va_A ws sz)) 0 0 (va_A ws sz) := by
  refine gw_head (by decide) (Nat.le_of_ble_eq_true rfl) (fun p e s m below meth c hsz hx hb hr hlocks hml hown hnm hts hK hN hP hD hS hA ls hl => ?_)
  have hown : s.vm.findClass R_M = some m.cls := hown
  have hT : ∀ w ∈ wG, w ∈ Cond.code y_M_told b_M_told 5 (some .int) :: wG := gd_t _
  have hF : CallFix p m c b_M_told 5 s ([.ref (A 0), .int x] : List Value).toArray (Cond.code y_M_told b_M_told 5 (some .int) :: wG) R_M := ⟨hx, hb, hml, hown, hts⟩
  have hl : lv_has ls 5 [(0, .ref (A 0)), (1, .int x)] := hl
  obtain ⟨D0, O, Md, Lf, m0, mR, mE, mD, mO, mM, mP, mA, mB, mC, mL⟩ := hM
  have hfr : gF b (b + 11) ws ws := gF.rf
  refine lv_aload_n hx hb d_M_told_0 rfl (lv_at hl 0 rfl) ?_
  refine lv_iload_n hx hb d_M_told_1 rfl (lv_at hl 1 rfl) ?_
  refine lv_if_lt (tgt := 15) hx hb d_M_told_2 (by decide) (fun c1 => ?_) (fun c1 => ?_)
  · refine lv_iconst (v := nI 1) hx hb d_M_told_15 (by decide) ?_
    refine gp_M_48 hF hT hK hP hD hS (fs1 := [.int (nI 1), .int (nI N), .ref (A 1), .ref (A 2), .ref (A 3), .ref (A 4), .ref (A 5), .ref (A 6), .int (nI nm), .ref (A 7), .ref (A 8), .ref (A 9), .ref (A 10)]) m0 rfl rfl (Nat.le_of_ble_eq_true rfl) rfl d_M_told_16 (fun w H locs m0 hf hP hD hS => ?_)
    have mR := hf.at mR (by omega)
    have mE := hf.at mE (by omega)
    have mD := hf.at mD (by omega)
    have mO := hf.at mO (by omega)
    have mM := hf.at mM (by omega)
    have mP := hf.at mP (by omega)
    have mA := hf.at mA (by omega)
    have mB := hf.at mB (by omega)
    have mC := hf.at mC (by omega)
    have mL := hf.at mL (by omega)
    have hfr := hfr.in hf (by omega) (by omega)
    refine lv_aload_n hx hb d_M_told_19 rfl (lv_at hl 0 rfl) ?_
    refine gf_M_48 hF hT hK hP m0 rfl d_M_told_20 ?_
    refine lv_if_le (tgt := 28) hx hb d_M_told_23 (by decide) (fun c2 => ?_) (fun c2 => ?_)
    · have c2 := (nI_leI (a := 1) (b := 0) (by omega) (by omega)).mp c2
      exfalso; omega
    · have c2 : ¬ (1 ≤ 0) := fun z => c2 ((nI_leI (a := 1) (b := 0) (by omega) (by omega)).mpr z)
      refine lv_iconst (v := nI 0) hx hb d_M_told_26 (by decide) ?_
      exact gw_iret hx hb hr hlocks hK hP hD hS (Nat.le_of_ble_eq_true rfl) (Nat.le_of_ble_eq_true rfl) d_M_told_27 ⟨⟨_, Or.inl ⟨fun q => q.1 c1, rfl⟩, ⟨_, _, _, _, m0, mR, mE, mD, mO, mM, mP, mA, mB, mC, mL⟩⟩, hfr⟩
  · refine lv_iload_n hx hb d_M_told_5 rfl (lv_at hl 1 rfl) ?_
    refine lv_bipush (v := nI 9) hx hb d_M_told_6 (by decide) ?_
    refine lv_icmp_gt (tgt := 15) hx hb d_M_told_8 (by decide) (fun c3 => ?_) (fun c3 => ?_)
    · refine lv_iconst (v := nI 1) hx hb d_M_told_15 (by decide) ?_
      refine gp_M_48 hF hT hK hP hD hS (fs1 := [.int (nI 1), .int (nI N), .ref (A 1), .ref (A 2), .ref (A 3), .ref (A 4), .ref (A 5), .ref (A 6), .int (nI nm), .ref (A 7), .ref (A 8), .ref (A 9), .ref (A 10)]) m0 rfl rfl (Nat.le_of_ble_eq_true rfl) rfl d_M_told_16 (fun w H locs m0 hf hP hD hS => ?_)
      have mR := hf.at mR (by omega)
      have mE := hf.at mE (by omega)
      have mD := hf.at mD (by omega)
      have mO := hf.at mO (by omega)
      have mM := hf.at mM (by omega)
      have mP := hf.at mP (by omega)
      have mA := hf.at mA (by omega)
      have mB := hf.at mB (by omega)
      have mC := hf.at mC (by omega)
      have mL := hf.at mL (by omega)
      have hfr := hfr.in hf (by omega) (by omega)
      refine lv_aload_n hx hb d_M_told_19 rfl (lv_at hl 0 rfl) ?_
      refine gf_M_48 hF hT hK hP m0 rfl d_M_told_20 ?_
      refine lv_if_le (tgt := 28) hx hb d_M_told_23 (by decide) (fun c4 => ?_) (fun c4 => ?_)
      · have c4 := (nI_leI (a := 1) (b := 0) (by omega) (by omega)).mp c4
        exfalso; omega
      · have c4 : ¬ (1 ≤ 0) := fun z => c4 ((nI_leI (a := 1) (b := 0) (by omega) (by omega)).mpr z)
        refine lv_iconst (v := nI 0) hx hb d_M_told_26 (by decide) ?_
        exact gw_iret hx hb hr hlocks hK hP hD hS (Nat.le_of_ble_eq_true rfl) (Nat.le_of_ble_eq_true rfl) d_M_told_27 ⟨⟨_, Or.inl ⟨fun q => Int32.not_lt.mpr q.2 c3, rfl⟩, ⟨_, _, _, _, m0, mR, mE, mD, mO, mM, mP, mA, mB, mC, mL⟩⟩, hfr⟩
    · obtain ⟨q, hq, eq⟩ := okW.k ⟨c1, Int32.not_lt.mp c3⟩
      rw [eq] at hl
      refine lv_iconst (v := nI 0) hx hb d_M_told_11 (by decide) ?_
      refine lv_goto (tgt := 16) hx hb d_M_told_12 (by decide) ?_
      refine gp_M_48 hF hT hK hP hD hS (fs1 := [.int (nI 0), .int (nI N), .ref (A 1), .ref (A 2), .ref (A 3), .ref (A 4), .ref (A 5), .ref (A 6), .int (nI nm), .ref (A 7), .ref (A 8), .ref (A 9), .ref (A 10)]) m0 rfl rfl (Nat.le_of_ble_eq_true rfl) rfl d_M_told_16 (fun w H locs m0 hf hP hD hS => ?_)
      have mR := hf.at mR (by omega)
      have mE := hf.at mE (by omega)
      have mD := hf.at mD (by omega)
      have mO := hf.at mO (by omega)
      have mM := hf.at mM (by omega)
      have mP := hf.at mP (by omega)
      have mA := hf.at mA (by omega)
      have mB := hf.at mB (by omega)
      have mC := hf.at mC (by omega)
      have mL := hf.at mL (by omega)
      have hfr := hfr.in hf (by omega) (by omega)
      refine lv_aload_n hx hb d_M_told_19 rfl (lv_at hl 0 rfl) ?_
      refine gf_M_48 hF hT hK hP m0 rfl d_M_told_20 ?_
      refine lv_if_le (tgt := 28) hx hb d_M_told_23 (by decide) (fun c5 => ?_) (fun c5 => ?_)
      · have c5 := (nI_leI (a := 0) (b := 0) (by omega) (by omega)).mp c5
        refine lv_iconst (v := nI 0) hx hb d_M_told_28 (by decide) ?_
        refine lv_istore_n (lv' := [(2, .int (nI 0)), (0, .ref (A 0)), (1, .int (nI q))]) hx hb d_M_told_29 rfl hl (by decide) rfl (fun ls hl => ?_)
        refine lv_iload_n hx hb d_M_told_30 rfl (lv_at hl 2 rfl) ?_
        refine lv_if_ne (tgt := 39) hx hb d_M_told_31 (by decide) (fun c6 => ?_) (fun c6 => ?_)
        · have c6 : ¬ (q = 0) := fun z => c6 ((nI_eq (a := q) (b := 0) (by omega) (by omega)).mpr z)
          refine lv_iload_n hx hb d_M_told_39 rfl (lv_at hl 2 rfl) ?_
          refine lv_bipush (v := nI 9) hx hb d_M_told_40 (by decide) ?_
          refine lv_icmp_ne (tgt := 78) hx hb d_M_told_42 (by decide) (fun c7 => ?_) (fun c7 => ?_)
          · have c7 : ¬ (q = 9) := fun z => c7 ((nI_eq (a := q) (b := 9) (by omega) (by omega)).mpr z)
            refine lv_iconst (v := nI 0) hx hb d_M_told_78 (by decide) ?_
            refine lv_istore_n (lv' := [(3, .int (nI 0)), (2, .int (nI 0)), (0, .ref (A 0)), (1, .int (nI q))]) hx hb d_M_told_79 rfl hl (by decide) rfl (fun ls hl => ?_)
            have lp_80 : ∀ (dd i : Nat), i + dd = 10 → ∀ (w : va_W) (H : Heap) (locs : List Loc) (ls : Array Slot), w[b]? = some (A 0, .inr (3, [.int (nI 0), .int (nI N), .ref (A 1), .ref (A 2), .ref (A 3), .ref (A 4), .ref (A 5), .ref (A 6), .int (nI nm), .ref (A 7), .ref (A 8), .ref (A 9), .ref (A 10)])) → w[b + 1]? = some (A 1, .inl (cJ, 800, .inr (.inl R))) → w[b + 2]? = some (A 2, .inl (cZ, 8, .inl Em)) → w[b + 3]? = some (A 3, .inl (cJ, 100, .inr (.inl D0))) → w[b + 4]? = some (A 4, .inl (cJ, 100, .inr (.inl O))) → w[b + 5]? = some (A 5, .inl (cJ, 100, .inr (.inl Md))) → w[b + 6]? = some (A 6, .inl (cJ, 6, .inr (.inl Pt))) → w[b + 7]? = some (A 7, .inl (cI, 60, .inl nA)) → w[b + 8]? = some (A 8, .inl (cI, 60, .inl nB)) → w[b + 9]? = some (A 9, .inl (cJ, 60, .inr (.inl nC))) → w[b + 10]? = some (A 10, .inl (cZ, 60, .inl Lf)) → gF b (b + 11) ws w → va_P D classes w H → va_D (va_A ws sz) w → va_S (va_A ws sz) s.heap H locs → lv_has ls 5 [(3, .int (nI i)), (2, .int (nI (lm_cntR R (q - 1) i))), (0, .ref (A 0)), (1, .int (nI q))] → W p l e ({ frames := 1, cells := 0, slots := 0, locals := 0 } : Room) s m ([.ref (A 0), .int x] : List Value).toArray below meth c H locs 0 0 (MQ below (va_Qi (fun r w => (∃ th', ((¬ okW x ∧ th' = nI 1) ∨ (∃ q, q ≤ 9 ∧ x = nI q ∧ th' = nI 0 ∧ ((q = 0 ∧ r = nI N) ∨ (q = 9 ∧ r = nI (lm_cntZ Em 8)) ∨ (1 ≤ q ∧ q ≤ 8 ∧ r = nI (lm_cntR R (q - 1) 10))))) ∧ mS cJ cI cZ w b A N th' nm R Em Pt nA nB nC) ∧ gF b (b + 11) ws w) (gw_B D classes (gT cJ cI cZ cS) ws sz) (va_A ws sz)) ([.ref (A 0), .int x] : List Value).toArray s 0 0 (va_A ws sz)) (F0 m 80 ls []) := by
              intro dd
              induction dd with
              | zero =>
                intro i e_i w H locs ls m0 mR mE mD mO mM mP mA mB mC mL hfr hP hD hS hl
                have e0_i : 10 = i := by omega
                subst e0_i
                refine lv_iload_n hx hb d_M_told_80 rfl (lv_at hl 0 rfl) ?_
                refine lv_bipush (v := nI 10) hx hb d_M_told_81 (by decide) ?_
                refine lv_icmp_ge (tgt := 142) hx hb d_M_told_83 (by decide) (fun c8 => ?_) (fun c8 => ?_)
                · have c8 := (nI_leI (a := 10) (b := 10) (by omega) (by omega)).mp c8
                  refine lv_iload_n hx hb d_M_told_142 rfl (lv_at hl 1 rfl) ?_
                  exact gw_iret hx hb hr hlocks hK hP hD hS (Nat.le_of_ble_eq_true rfl) (Nat.le_of_ble_eq_true rfl) d_M_told_143 ⟨⟨_, Or.inr ⟨q, hq, eq, rfl, Or.inr (Or.inr ⟨by omega, by omega, rfl⟩)⟩, ⟨_, _, _, _, m0, mR, mE, mD, mO, mM, mP, mA, mB, mC, mL⟩⟩, hfr⟩
                · have c8 : ¬ (10 ≤ 10) := fun z => c8 ((nI_leI (a := 10) (b := 10) (by omega) (by omega)).mpr z)
                  exfalso; omega
              | succ dd ih_80 =>
                intro i e_i w H locs ls m0 mR mE mD mO mM mP mA mB mC mL hfr hP hD hS hl
                refine lv_iload_n hx hb d_M_told_80 rfl (lv_at hl 0 rfl) ?_
                refine lv_bipush (v := nI 10) hx hb d_M_told_81 (by decide) ?_
                refine lv_icmp_ge (tgt := 142) hx hb d_M_told_83 (by decide) (fun c9 => ?_) (fun c9 => ?_)
                · have c9 := (nI_leI (a := 10) (b := i) (by omega) (by omega)).mp c9
                  exfalso; omega
                · have c9 : ¬ (10 ≤ i) := fun z => c9 ((nI_leI (a := 10) (b := i) (by omega) (by omega)).mpr z)
                  refine lv_iload_n hx hb d_M_told_86 rfl (lv_at hl 0 rfl) ?_
                  refine lv_istore (lv' := [(4, .int (nI i)), (3, .int (nI i)), (2, .int (nI (lm_cntR R (q - 1) i))), (0, .ref (A 0)), (1, .int (nI q))]) hx hb d_M_told_87 hl (by decide) rfl (fun ls hl => ?_)
                  have lp_89 : ∀ (dd t : Nat), t + dd = (10 - i) → ∀ (w : va_W) (H : Heap) (locs : List Loc) (ls : Array Slot), w[b]? = some (A 0, .inr (3, [.int (nI 0), .int (nI N), .ref (A 1), .ref (A 2), .ref (A 3), .ref (A 4), .ref (A 5), .ref (A 6), .int (nI nm), .ref (A 7), .ref (A 8), .ref (A 9), .ref (A 10)])) → w[b + 1]? = some (A 1, .inl (cJ, 800, .inr (.inl R))) → w[b + 2]? = some (A 2, .inl (cZ, 8, .inl Em)) → w[b + 3]? = some (A 3, .inl (cJ, 100, .inr (.inl D0))) → w[b + 4]? = some (A 4, .inl (cJ, 100, .inr (.inl O))) → w[b + 5]? = some (A 5, .inl (cJ, 100, .inr (.inl Md))) → w[b + 6]? = some (A 6, .inl (cJ, 6, .inr (.inl Pt))) → w[b + 7]? = some (A 7, .inl (cI, 60, .inl nA)) → w[b + 8]? = some (A 8, .inl (cI, 60, .inl nB)) → w[b + 9]? = some (A 9, .inl (cJ, 60, .inr (.inl nC))) → w[b + 10]? = some (A 10, .inl (cZ, 60, .inl Lf)) → gF b (b + 11) ws w → va_P D classes w H → va_D (va_A ws sz) w → va_S (va_A ws sz) s.heap H locs → lv_has ls 5 [(4, .int (nI (i + t))), (3, .int (nI i)), (2, .int (nI (lm_cntI R (q - 1) i t (lm_cntR R (q - 1) i)))), (0, .ref (A 0)), (1, .int (nI q))] → W p l e ({ frames := 1, cells := 0, slots := 0, locals := 0 } : Room) s m ([.ref (A 0), .int x] : List Value).toArray below meth c H locs 0 0 (MQ below (va_Qi (fun r w => (∃ th', ((¬ okW x ∧ th' = nI 1) ∨ (∃ q, q ≤ 9 ∧ x = nI q ∧ th' = nI 0 ∧ ((q = 0 ∧ r = nI N) ∨ (q = 9 ∧ r = nI (lm_cntZ Em 8)) ∨ (1 ≤ q ∧ q ≤ 8 ∧ r = nI (lm_cntR R (q - 1) 10))))) ∧ mS cJ cI cZ w b A N th' nm R Em Pt nA nB nC) ∧ gF b (b + 11) ws w) (gw_B D classes (gT cJ cI cZ cS) ws sz) (va_A ws sz)) ([.ref (A 0), .int x] : List Value).toArray s 0 0 (va_A ws sz)) (F0 m 89 ls []) := by
                    intro dd
                    induction dd with
                    | zero =>
                      intro t e_t w H locs ls m0 mR mE mD mO mM mP mA mB mC mL hfr hP hD hS hl
                      have e0_t : (10 - i) = t := by omega
                      subst e0_t
                      refine lv_iload hx hb d_M_told_89 (lv_at hl 0 rfl) ?_
                      refine lv_bipush (v := nI 10) hx hb d_M_told_91 (by decide) ?_
                      refine lv_icmp_ge (tgt := 136) hx hb d_M_told_93 (by decide) (fun c10 => ?_) (fun c10 => ?_)
                      · have c10 := (nI_leI (a := 10) (b := (i + (10 - i))) (by omega) (by omega)).mp c10
                        refine lv_iinc (v := nI (i + 1)) (lv' := [(3, .int (nI (i + 1))), (4, .int (nI (i + (10 - i)))), (2, .int (nI (lm_cntI R (q - 1) i (10 - i) (lm_cntR R (q - 1) i)))), (0, .ref (A 0)), (1, .int (nI q))]) hx hb d_M_told_136 hl (k := 1) rfl (gx_inc _) (by decide) rfl (fun ls hl => ?_)
                        refine lv_goto (tgt := 80) hx hb d_M_told_139 (by decide) ?_
                        exact ih_80 (i + 1) (by omega) _ _ _ _ m0 mR mE mD mO mM mP mA mB mC mL hfr hP hD hS (lv_sub hl [0, 2, 3, 4] rfl)
                      · have c10 : ¬ (10 ≤ i + (10 - i)) := fun z => c10 ((nI_leI (a := 10) (b := (i + (10 - i))) (by omega) (by omega)).mpr z)
                        exfalso; omega
                    | succ dd ih_89 =>
                      intro t e_t w H locs ls m0 mR mE mD mO mM mP mA mB mC mL hfr hP hD hS hl
                      refine lv_iload hx hb d_M_told_89 (lv_at hl 0 rfl) ?_
                      refine lv_bipush (v := nI 10) hx hb d_M_told_91 (by decide) ?_
                      refine lv_icmp_ge (tgt := 136) hx hb d_M_told_93 (by decide) (fun c11 => ?_) (fun c11 => ?_)
                      · have c11 := (nI_leI (a := 10) (b := (i + t)) (by omega) (by omega)).mp c11
                        exfalso; omega
                      · have c11 : ¬ (10 ≤ i + t) := fun z => c11 ((nI_leI (a := 10) (b := (i + t)) (by omega) (by omega)).mpr z)
                        refine lv_iload_n hx hb d_M_told_96 rfl (lv_at hl 2 rfl) ?_
                        have mg_128 : ∀ (H : Heap) (locs : List Loc), va_P D classes w H → va_D (va_A ws sz) w → va_S (va_A ws sz) s.heap H locs → W p l e ({ frames := 1, cells := 0, slots := 0, locals := 0 } : Room) s m ([.ref (A 0), .int x] : List Value).toArray below meth c H locs 0 0 (MQ below (va_Qi (fun r w => (∃ th', ((¬ okW x ∧ th' = nI 1) ∨ (∃ q, q ≤ 9 ∧ x = nI q ∧ th' = nI 0 ∧ ((q = 0 ∧ r = nI N) ∨ (q = 9 ∧ r = nI (lm_cntZ Em 8)) ∨ (1 ≤ q ∧ q ≤ 8 ∧ r = nI (lm_cntR R (q - 1) 10))))) ∧ mS cJ cI cZ w b A N th' nm R Em Pt nA nB nC) ∧ gF b (b + 11) ws w) (gw_B D classes (gT cJ cI cZ cS) ws sz) (va_A ws sz)) ([.ref (A 0), .int x] : List Value).toArray s 0 0 (va_A ws sz)) (F0 m 128 ls [.int (nI (if R (100 * (q - 1) + 10 * i + (i + t)) = lr_E then 0 else 1)), .int (nI (lm_cntI R (q - 1) i t (lm_cntR R (q - 1) i)))]) := by
                          intro H locs hP hD hS
                          refine lv_iadd hx hb d_M_told_128 ?_
                          refine gx_i (y := nI ((lm_cntI R (q - 1) i t (lm_cntR R (q - 1) i)) + (if R (100 * (q - 1) + 10 * i + (i + t)) = lr_E then 0 else 1))) (nI_add _ _) ?_
                          refine lv_istore_n (lv' := [(2, .int (nI ((lm_cntI R (q - 1) i t (lm_cntR R (q - 1) i)) + (if R (100 * (q - 1) + 10 * i + (i + t)) = lr_E then 0 else 1)))), (4, .int (nI (i + t))), (3, .int (nI i)), (0, .ref (A 0)), (1, .int (nI q))]) hx hb d_M_told_129 rfl hl (by decide) rfl (fun ls hl => ?_)
                          refine lv_iinc (v := nI (i + t + 1)) (lv' := [(4, .int (nI (i + t + 1))), (2, .int (nI ((lm_cntI R (q - 1) i t (lm_cntR R (q - 1) i)) + (if R (100 * (q - 1) + 10 * i + (i + t)) = lr_E then 0 else 1)))), (3, .int (nI i)), (0, .ref (A 0)), (1, .int (nI q))]) hx hb d_M_told_130 hl (k := 1) rfl (gx_inc _) (by decide) rfl (fun ls hl => ?_)
                          refine lv_goto (tgt := 89) hx hb d_M_told_133 (by decide) ?_
                          exact ih_89 (t + 1) (by omega) _ _ _ _ m0 mR mE mD mO mM mP mA mB mC mL hfr hP hD hS (lv_sub hl [0, 2, 1, 3, 4] rfl)
                        refine lv_aload_n hx hb d_M_told_97 rfl (lv_at hl 3 rfl) ?_
                        refine gf_M_7 hF hT hK hP m0 rfl d_M_told_98 ?_
                        refine lv_bipush (v := nI 100) hx hb d_M_told_101 (by decide) ?_
                        refine lv_iload_n hx hb d_M_told_103 rfl (lv_at hl 4 rfl) ?_
                        refine lv_iconst (v := nI 1) hx hb d_M_told_104 (by decide) ?_
                        refine lv_isub hx hb d_M_told_105 ?_
                        refine gx_i (y := nI (q - 1)) (pk_sub (by omega)) ?_
                        refine lv_imul hx hb d_M_told_106 ?_
                        refine gx_i (y := nI (100 * (q - 1))) (pk_mul _ _) ?_
                        refine lv_bipush (v := nI 10) hx hb d_M_told_107 (by decide) ?_
                        refine lv_iload_n hx hb d_M_told_109 rfl (lv_at hl 1 rfl) ?_
                        refine lv_imul hx hb d_M_told_110 ?_
                        refine gx_i (y := nI (10 * i)) (pk_mul _ _) ?_
                        refine lv_iadd hx hb d_M_told_111 ?_
                        refine gx_i (y := nI ((100 * (q - 1)) + (10 * i))) (nI_add _ _) ?_
                        refine lv_iload hx hb d_M_told_112 (lv_at hl 0 rfl) ?_
                        refine lv_iadd hx hb d_M_told_114 ?_
                        refine gx_i (y := nI (((100 * (q - 1)) + (10 * i)) + (i + t))) (nI_add _ _) ?_
                        refine g_lald (t0 := 0) (k := ((100 * (q - 1)) + (10 * i)) + (i + t)) hx hb hK hP mR rfl (by omega) (by omega) d_M_told_115 ?_
                        refine lv_ldc2 (v := lr_E) hx hb hown (hts _ (hT _ wm_3_124)) d_M_told_116 ?_
                        refine gx_leq (tgt := 127) hx hb d_M_told_119 d_M_told_120 (by decide) (fun c12 => ?_) (fun c12 => ?_)
                        · refine lv_iconst (v := nI 0) hx hb d_M_told_127 (by decide) ?_
                          exact gx_i (y := nI (if R (100 * (q - 1) + 10 * i + (i + t)) = lr_E then 0 else 1)) (by rw [if_pos c12]) (mg_128 _ _ hP hD hS)
                        · refine lv_iconst (v := nI 1) hx hb d_M_told_123 (by decide) ?_
                          refine lv_goto (tgt := 128) hx hb d_M_told_124 (by decide) ?_
                          exact gx_i (y := nI (if R (100 * (q - 1) + 10 * i + (i + t)) = lr_E then 0 else 1)) (by rw [if_neg c12]) (mg_128 _ _ hP hD hS)
                  exact lp_89 (10 - i) 0 (by omega) _ _ _ _ m0 mR mE mD mO mM mP mA mB mC mL hfr hP hD hS (lv_sub hl [0, 1, 2, 3, 4] rfl)
            exact lp_80 10 0 (by omega) _ _ _ _ m0 mR mE mD mO mM mP mA mB mC mL hfr hP hD hS (lv_sub hl [0, 1, 2, 3] rfl)
          · have c7 := (nI_eq (a := q) (b := 9) (by omega) (by omega)).mp c7
            refine lv_iconst (v := nI 0) hx hb d_M_told_45 (by decide) ?_
            refine lv_istore_n (lv' := [(3, .int (nI 0)), (2, .int (nI 0)), (0, .ref (A 0)), (1, .int (nI q))]) hx hb d_M_told_46 rfl hl (by decide) rfl (fun ls hl => ?_)
            have lp_47 : ∀ (dd j : Nat), j + dd = 8 → ∀ (w : va_W) (H : Heap) (locs : List Loc) (ls : Array Slot), w[b]? = some (A 0, .inr (3, [.int (nI 0), .int (nI N), .ref (A 1), .ref (A 2), .ref (A 3), .ref (A 4), .ref (A 5), .ref (A 6), .int (nI nm), .ref (A 7), .ref (A 8), .ref (A 9), .ref (A 10)])) → w[b + 1]? = some (A 1, .inl (cJ, 800, .inr (.inl R))) → w[b + 2]? = some (A 2, .inl (cZ, 8, .inl Em)) → w[b + 3]? = some (A 3, .inl (cJ, 100, .inr (.inl D0))) → w[b + 4]? = some (A 4, .inl (cJ, 100, .inr (.inl O))) → w[b + 5]? = some (A 5, .inl (cJ, 100, .inr (.inl Md))) → w[b + 6]? = some (A 6, .inl (cJ, 6, .inr (.inl Pt))) → w[b + 7]? = some (A 7, .inl (cI, 60, .inl nA)) → w[b + 8]? = some (A 8, .inl (cI, 60, .inl nB)) → w[b + 9]? = some (A 9, .inl (cJ, 60, .inr (.inl nC))) → w[b + 10]? = some (A 10, .inl (cZ, 60, .inl Lf)) → gF b (b + 11) ws w → va_P D classes w H → va_D (va_A ws sz) w → va_S (va_A ws sz) s.heap H locs → lv_has ls 5 [(3, .int (nI j)), (2, .int (nI (lm_cntZ Em j))), (0, .ref (A 0)), (1, .int (nI q))] → W p l e ({ frames := 1, cells := 0, slots := 0, locals := 0 } : Room) s m ([.ref (A 0), .int x] : List Value).toArray below meth c H locs 0 0 (MQ below (va_Qi (fun r w => (∃ th', ((¬ okW x ∧ th' = nI 1) ∨ (∃ q, q ≤ 9 ∧ x = nI q ∧ th' = nI 0 ∧ ((q = 0 ∧ r = nI N) ∨ (q = 9 ∧ r = nI (lm_cntZ Em 8)) ∨ (1 ≤ q ∧ q ≤ 8 ∧ r = nI (lm_cntR R (q - 1) 10))))) ∧ mS cJ cI cZ w b A N th' nm R Em Pt nA nB nC) ∧ gF b (b + 11) ws w) (gw_B D classes (gT cJ cI cZ cS) ws sz) (va_A ws sz)) ([.ref (A 0), .int x] : List Value).toArray s 0 0 (va_A ws sz)) (F0 m 47 ls []) := by
              intro dd
              induction dd with
              | zero =>
                intro j e_j w H locs ls m0 mR mE mD mO mM mP mA mB mC mL hfr hP hD hS hl
                have e0_j : 8 = j := by omega
                subst e0_j
                refine lv_iload_n hx hb d_M_told_47 rfl (lv_at hl 0 rfl) ?_
                refine lv_bipush (v := nI 8) hx hb d_M_told_48 (by decide) ?_
                refine lv_icmp_ge (tgt := 76) hx hb d_M_told_50 (by decide) (fun c13 => ?_) (fun c13 => ?_)
                · have c13 := (nI_leI (a := 8) (b := 8) (by omega) (by omega)).mp c13
                  refine lv_iload_n hx hb d_M_told_76 rfl (lv_at hl 1 rfl) ?_
                  exact gw_iret hx hb hr hlocks hK hP hD hS (Nat.le_of_ble_eq_true rfl) (Nat.le_of_ble_eq_true rfl) d_M_told_77 ⟨⟨_, Or.inr ⟨q, hq, eq, rfl, Or.inr (Or.inl ⟨c7, rfl⟩)⟩, ⟨_, _, _, _, m0, mR, mE, mD, mO, mM, mP, mA, mB, mC, mL⟩⟩, hfr⟩
                · have c13 : ¬ (8 ≤ 8) := fun z => c13 ((nI_leI (a := 8) (b := 8) (by omega) (by omega)).mpr z)
                  exfalso; omega
              | succ dd ih_47 =>
                intro j e_j w H locs ls m0 mR mE mD mO mM mP mA mB mC mL hfr hP hD hS hl
                refine lv_iload_n hx hb d_M_told_47 rfl (lv_at hl 0 rfl) ?_
                refine lv_bipush (v := nI 8) hx hb d_M_told_48 (by decide) ?_
                refine lv_icmp_ge (tgt := 76) hx hb d_M_told_50 (by decide) (fun c14 => ?_) (fun c14 => ?_)
                · have c14 := (nI_leI (a := 8) (b := j) (by omega) (by omega)).mp c14
                  exfalso; omega
                · have c14 : ¬ (8 ≤ j) := fun z => c14 ((nI_leI (a := 8) (b := j) (by omega) (by omega)).mpr z)
                  refine lv_iload_n hx hb d_M_told_53 rfl (lv_at hl 1 rfl) ?_
                  have mg_68 : ∀ (H : Heap) (locs : List Loc), va_P D classes w H → va_D (va_A ws sz) w → va_S (va_A ws sz) s.heap H locs → W p l e ({ frames := 1, cells := 0, slots := 0, locals := 0 } : Room) s m ([.ref (A 0), .int x] : List Value).toArray below meth c H locs 0 0 (MQ below (va_Qi (fun r w => (∃ th', ((¬ okW x ∧ th' = nI 1) ∨ (∃ q, q ≤ 9 ∧ x = nI q ∧ th' = nI 0 ∧ ((q = 0 ∧ r = nI N) ∨ (q = 9 ∧ r = nI (lm_cntZ Em 8)) ∨ (1 ≤ q ∧ q ≤ 8 ∧ r = nI (lm_cntR R (q - 1) 10))))) ∧ mS cJ cI cZ w b A N th' nm R Em Pt nA nB nC) ∧ gF b (b + 11) ws w) (gw_B D classes (gT cJ cI cZ cS) ws sz) (va_A ws sz)) ([.ref (A 0), .int x] : List Value).toArray s 0 0 (va_A ws sz)) (F0 m 68 ls [.int (nI (if Em j = 0 then 0 else 1)), .int (nI (lm_cntZ Em j))]) := by
                    intro H locs hP hD hS
                    refine lv_iadd hx hb d_M_told_68 ?_
                    refine gx_i (y := nI ((lm_cntZ Em j) + (if Em j = 0 then 0 else 1))) (nI_add _ _) ?_
                    refine lv_istore_n (lv' := [(2, .int (nI ((lm_cntZ Em j) + (if Em j = 0 then 0 else 1)))), (3, .int (nI j)), (0, .ref (A 0)), (1, .int (nI q))]) hx hb d_M_told_69 rfl hl (by decide) rfl (fun ls hl => ?_)
                    refine lv_iinc (v := nI (j + 1)) (lv' := [(3, .int (nI (j + 1))), (2, .int (nI ((lm_cntZ Em j) + (if Em j = 0 then 0 else 1)))), (0, .ref (A 0)), (1, .int (nI q))]) hx hb d_M_told_70 hl (k := 1) rfl (gx_inc _) (by decide) rfl (fun ls hl => ?_)
                    refine lv_goto (tgt := 47) hx hb d_M_told_73 (by decide) ?_
                    exact ih_47 (j + 1) (by omega) _ _ _ _ m0 mR mE mD mO mM mP mA mB mC mL hfr hP hD hS (lv_sub hl [0, 1, 2, 3] rfl)
                  refine lv_aload_n hx hb d_M_told_54 rfl (lv_at hl 2 rfl) ?_
                  refine gf_M_13 hF hT hK hP m0 rfl d_M_told_55 ?_
                  refine lv_iload_n hx hb d_M_told_58 rfl (lv_at hl 0 rfl) ?_
                  refine g_zald (t0 := 2) (k := j) hx hb hK hP mE rfl (by omega) (by omega) d_M_told_59 ?_
                  refine lv_if_eq (tgt := 67) hx hb d_M_told_60 (by decide) (fun c15 => ?_) (fun c15 => ?_)
                  · refine lv_iconst (v := nI 0) hx hb d_M_told_67 (by decide) ?_
                    exact gx_i (y := nI (if Em j = 0 then 0 else 1)) (by rw [if_pos c15]) (mg_68 _ _ hP hD hS)
                  · refine lv_iconst (v := nI 1) hx hb d_M_told_63 (by decide) ?_
                    refine lv_goto (tgt := 68) hx hb d_M_told_64 (by decide) ?_
                    exact gx_i (y := nI (if Em j = 0 then 0 else 1)) (by rw [if_neg c15]) (mg_68 _ _ hP hD hS)
            exact lp_47 8 0 (by omega) _ _ _ _ m0 mR mE mD mO mM mP mA mB mC mL hfr hP hD hS (lv_sub hl [0, 1, 2, 3] rfl)
        · have c6 := (nI_eq (a := q) (b := 0) (by omega) (by omega)).mp c6
          refine lv_aload_n hx hb d_M_told_34 rfl (lv_at hl 1 rfl) ?_
          refine gf_M_42 hF hT hK hP m0 rfl d_M_told_35 ?_
          exact gw_iret hx hb hr hlocks hK hP hD hS (Nat.le_of_ble_eq_true rfl) (Nat.le_of_ble_eq_true rfl) d_M_told_38 ⟨⟨_, Or.inr ⟨q, hq, eq, rfl, Or.inl ⟨c6, rfl⟩⟩, ⟨_, _, _, _, m0, mR, mE, mD, mO, mM, mP, mA, mB, mC, mL⟩⟩, hfr⟩
      · have c5 : ¬ (0 ≤ 0) := fun z => c5 ((nI_leI (a := 0) (b := 0) (by omega) (by omega)).mpr z)
        exfalso; omega
