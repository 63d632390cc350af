/-! the law's start: the cell of the script, the constructors -/
abbrev gs_Pc (D : va_G) (cl : List vw_C) (tys : List (ClassId × FieldType)) (av : List Value) (ws : va_W) (sz b L : Nat) (xs : Nat → Int32) : Array Value → State → Prop := va_Pc av (fun U => (U.heap.size = sz ∧ va_P D cl ws U.heap ∧ va_K D cl tys U ∧ va_D (fun q => q ≠ b) ws ∧ gN U) ∧ va_X b L xs U U.heap ∧ b < sz)
section GSP
variable {p : Program} {l : Launch} {e : Env} {R : Room} {s : State} {m : MethodId} {args : Array Value} {below : List Frame} {meth : Method} {c : Code} {H : Heap} {locs : List Loc} {cells slots : Nat} {Q : State → Prop}
variable {D : va_G} {cl : List vw_C} {tys : List (ClassId × FieldType)} {ws : va_W} {b L sz mc ms pc nL maxL index n : Nat} {xs : Nat → Int32} {ls : Array Slot} {rest st0 As : List Value} {cc bytes : ByteArray} {Ts : List Cond} {own : String} {y : MethodName} {ret : Option FieldType} {rm : Room} {Qc : Array Value → State → Outcome → State → Prop} {free A : Addr → Prop}
theorem gs_blind {av : List Value} : FrameBlind (gs_Pc D cl tys av ws sz b L xs) := fun a U g mk q => by
  obtain ⟨q0, ⟨q1, qP, qK, qD, qN⟩, qX, qb⟩ := q
  exact ⟨q0, ⟨q1, qP, va_K.moved (u := U) (U := U.calling g mk a) (Vm.Alike.refl U.vm) qK, qD, gN.warm (s := U) (U := U.calling g mk a) (State.WarmedH.refl U) qN⟩, va_X.moved (u := U) (U := U.calling g mk a) (Vm.Alike.refl U.vm) qX, qb⟩
theorem gi_blind {av : List Value} : FrameBlind (gi_Pc D cl tys av ws sz) := fun a U g mk q => by
  obtain ⟨q0, ⟨q1, qP, qK, qD, qN⟩, qO⟩ := q
  exact ⟨q0, ⟨q1, qP, va_K.moved (u := U) (U := U.calling g mk a) (Vm.Alike.refl U.vm) qK, qD, gN.warm (s := U) (U := U.calling g mk a) (State.WarmedH.refl U) qN⟩, va_AO.moved (u := U) (U := U.calling g mk a) (Vm.Alike.refl U.vm) qO⟩
theorem gs_rS (S : CallFix p m c cc nL s args Ts own) (hT : ∀ w ∈ wG, w ∈ Ts) (hM : Met l y (Cond.code y bytes maxL ret :: wG) rm (gs_Pc D cl tys As ws H.size b L xs) Qc mc ms free)
    (h1 : Cond.methodLink own index y ∈ wG) (h2 : Cond.static y ∈ wG) (h4 : Cond.initialized y.cls ∈ wG) (h5 : Cond.code y bytes maxL ret ∈ wG)
    (hd : y.cls ≠ "java/lang/invoke/MethodHandle" ∧ y.cls ≠ "java/lang/invoke/VarHandle" ∧ (parseMethodDescriptor y.desc).map (fun d => d.parameters.length) = some n) (hR : rm.frames + 1 ≤ R.frames ∧ 8 + (maxL + 11) + rm.locals ≤ R.locals) (hrc : rm.cells = mc) (hrs : rm.slots = ms)
    (hK : va_K D cl tys s) (hN : gN s) (hP : va_P D cl ws H) (hD : va_D (fun q => q ≠ b) ws) (hX : va_X b L xs s H) (hb : b < H.size)
    (hn : As.length = n) (hsize : ls.size = nL) (hstack : st0 = As.reverse ++ rest) (hW : (rest.map fun v => v.category).sum ≤ 8) (hdg : decode cc pc = .ok (.invokestatic index, 3)) (hf : cells + mc ≤ R.cells ∧ slots + ms ≤ R.slots) :
    va_Run p l e R s m args below meth c H locs cells slots mc ms (F0 m pc ls st0) rest (Qc As.toArray) free := by
  have hG : GoodIn Ts (va_wsS own index y (Cond.code y bytes maxL ret :: wG)) := gd_good hT (fun w hw => by
    unfold va_wsS at hw
    rcases List.mem_append.mp hw with h | h
    · simp only [List.mem_cons, List.not_mem_nil, or_false] at h
      rcases h with rfl | rfl | rfl
      · exact h1
      · exact h2
      · exact h4
    · exact gd_c h5 w h)
  exact va_runS S hM (va_cwS n S.2.2.2.2 hG rfl hrc hrs hd hR) ⟨gs_blind, fun U hU hW => ⟨rfl, ⟨by rw [hU], by rw [hU]; exact hP, va_K.moved hW.alike hK, hD, gN.warm hW hN⟩, by rw [hU]; exact va_X.moved hW.alike hX, hb⟩⟩ rfl hn hsize hstack (lv_room hW) hdg hf
theorem gi_rI {q : Nat} (S : CallFix p m c cc nL s args Ts own) (hT : ∀ w ∈ wG, w ∈ Ts) (hM : Met l y (Cond.code y bytes maxL none :: wG) rm (gi_Pc D cl tys (.ref q :: As) ws H.size) Qc mc ms free)
    (h1 : Cond.methodLink own index y ∈ wG) (h2 : Cond.instanceMethod y ∈ wG) (h4 : Cond.initialized y.cls ∈ wG) (h5 : Cond.code y bytes maxL none ∈ wG) (hy1 : y.name = "<init>")
    (hd : y.cls ≠ "java/lang/invoke/MethodHandle" ∧ y.cls ≠ "java/lang/invoke/VarHandle" ∧ (parseMethodDescriptor y.desc).map (fun d => d.parameters.length) = some n) (hR : rm.frames + 1 ≤ R.frames ∧ 8 + (maxL + 11) + rm.locals ≤ R.locals) (hrc : rm.cells = mc) (hrs : rm.slots = ms)
    (hK : va_K D cl tys s) (hN : gN s) (hO : va_AO "LinearRows$Shape" s) (hP : va_P D cl ws H) (hD : va_D A ws)
    (hn : As.length = n) (hsize : ls.size = nL) (hstack : st0 = As.reverse ++ .ref q :: rest) (hW : (rest.map fun v => v.category).sum ≤ 8) (hdg : decode cc pc = .ok (.invokespecial index, 3)) (hf : cells + mc ≤ R.cells ∧ slots + ms ≤ R.slots) :
    va_Run p l e R s m args below meth c H locs cells slots mc ms (F0 m pc ls st0) rest (Qc (Value.ref q :: As).toArray) free :=
  va_runI S hM (cwI n S.2.2.2.2 (gd_good hT (gd_c h5)) rfl hrc hrs (S.2.2.2.2 _ (hT _ h4)) (S.2.2.2.2 _ (hT _ h1)) (S.2.2.2.2 _ (hT _ h2)) hy1 hd hR) ⟨gi_blind, fun U hU hW => ⟨rfl, ⟨by rw [hU], by rw [hU]; exact hP, va_K.moved hW.alike hK, hD.weaken (fun _ _ _ _ => trivial), gN.warm hW hN⟩, va_AO.moved hW.alike hO⟩⟩ rfl hn hsize hstack (lv_room hW) hdg hf
end GSP
set_option maxHeartbeats 4000000 in
set_option maxRecDepth 100000 in
theorem c_L_cell {l : Launch} {D : va_G} {cJ cI cZ cS : ClassId} {ws : va_W} {sz b L : Nat} {xs : Nat → Int32} (hL : L ≤ 3073) : Met l y_L_cell w_L_cell ({ frames := 1, cells := 0, slots := 0, locals := 0 } : Room) (gs_Pc D classes (gT cJ cI cZ cS) [.ref b, .int (nI 0)] ws sz b L xs) (va_Qi (fun r w => r = (if 0 < L then xs 0 else nI 0) ∧ w = ws) (gw_B D classes (gT cJ cI cZ cS) ws sz) (va_A ws sz)) 0 0 (va_A ws sz) := by
  refine Met.ofW (cc := b_L_cell) (maxL := 2) (ret := some .int) (by decide) rfl ?_
  intro p e s m args below meth c s₁ B hml hv
  obtain ⟨rfl, ⟨hsz, hP, hK, hD0, hN⟩, hX, hbl⟩ := hv
  subst hsz
  rw [lg_entry_eq]
  have hx := B.exec
  have hb := B.bytes
  have hr := B.returns
  have hlocks := B.notSynchronized
  have hbA : ¬ va_A ws s.heap.size b := fun h => by
    rcases h with ⟨k, e, h⟩ | h
    · exact hD0.2 k _ h rfl
    · omega
  have hD : va_D (va_A ws s.heap.size) ws := hD0.self
  have hS : va_S (va_A ws s.heap.size) s.heap s.heap [] := va_S.rf
  have hl := lv_entry ([.ref b, .int (nI 0)] : List Value) (n := 2) (Nat.le_of_ble_eq_true rfl)
  generalize (lg_sl ([.ref b, .int (nI 0)] : List Value) ++ List.replicate (2 - (lg_sl ([.ref b, .int (nI 0)] : List Value)).length) Slot.unset).toArray = ls at hl ⊢
  have hl : lv_has ls 2 [(0, .ref b), (1, .int (nI 0))] := hl
  refine lv_iload_n hx hb d_L_cell_0 rfl (lv_at hl 1 rfl) ?_
  refine lv_aload_n hx hb d_L_cell_1 rfl (lv_at hl 0 rfl) ?_
  refine va_slen hx hb hX hbl hbA hS d_L_cell_2 ?_
  refine lv_icmp_ge (tgt := 12) hx hb d_L_cell_3 (by decide) (fun c1 => ?_) (fun c1 => ?_)
  · have c1 := (nI_leI (a := L) (b := 0) (by omega) (by omega)).mp c1
    refine lv_iconst (v := nI 0) hx hb d_L_cell_12 (by decide) ?_
    exact gw_iret hx hb hr hlocks hK hP hD hS (Nat.le_of_ble_eq_true rfl) (Nat.le_of_ble_eq_true rfl) d_L_cell_13 ⟨by rw [if_neg (by omega)], rfl⟩
  · have c1 : ¬ (L ≤ 0) := fun z => c1 ((nI_leI (a := L) (b := 0) (by omega) (by omega)).mpr z)
    refine lv_aload_n hx hb d_L_cell_6 rfl (lv_at hl 0 rfl) ?_
    refine lv_iload_n hx hb d_L_cell_7 rfl (lv_at hl 1 rfl) ?_
    refine gl_ld (j := 0) hx hb hX hbl hbA hS (by omega) hL d_L_cell_8 ?_
    refine lv_goto (tgt := 13) hx hb d_L_cell_9 (by decide) ?_
    exact gw_iret hx hb hr hlocks hK hP hD hS (Nat.le_of_ble_eq_true rfl) (Nat.le_of_ble_eq_true rfl) d_L_cell_13 ⟨by rw [if_pos (by omega)], rfl⟩
/-- the invariant at the start -/
theorem iv_sh_all {N : Nat} : iv_sh N lz_Z (lz_O (2 * N) (some 0) lz_Z) 0 := by
  refine ⟨iv_Z_K, Or.inl ⟨rfl, lr_Is.self ⟨lz_O_sym iv_Z_K.1, fun i hi => lz_Oz hi, ?_, ?_, ?_⟩, ?_⟩⟩
  · intro p hp i hi j hj
    unfold lz_O
    by_cases w1 : i < 2 * N ∧ p = lr_op i
    · rw [if_pos w1]
      by_cases w2 : j = lr_op i
      · rw [if_pos ⟨hi, w2⟩, if_pos ⟨lr_op_lt hp, by rw [lr_op_op, w1.2]; exact w2⟩]
        simp [lr_ad, lr_le]
      · rw [if_neg (fun w => w2 w.2), if_neg (fun w => w2 (by rw [w.2, w1.2, lr_op_op]))]
        simp [lr_ad, lr_le, lz_Z]
    · rw [if_neg w1]
      show lr_le _ (lr_ad none _)
      exact lr_le_none _
  · intro i hi c hc
    rw [lz_O_dg] at hc; exact absurd hc (by simp [lz_Z])
  · intro i hi j hj
    rw [lz_O_dg]; exact lr_le_none _
  · intro i hi j hj
    have h0 : lz_b 0 (lz_O (2 * N) (some 0) lz_Z i j) := by
      unfold lz_O; split
      · exact lz_b_s.mpr (by omega)
      · exact lz_b_n
    exact lz_b_w h0 (by split <;> omega)
theorem iv_start {N : Nat} : iv_A N (fun _ => lr_K0 (2 * N)) (fun _ => lr_B0 (2 * N)) (fun _ => nI 0) (lr_it (fun k R => vp_updL R k lr_E) 800 (fun _ => 0)) (fun _ => 0) := by
  intro k hk
  have e1 : lz_T (2 * N) (lr_K0 (2 * N)) = lz_Z := lz_T_fill
  have e2 : lz_T (2 * N) (lr_B0 (2 * N)) = lz_O (2 * N) (some 0) lz_Z := by
    show lz_T (2 * N) (lr_opps (lr_K0 (2 * N)) (2 * N) 0) = _
    rw [lz_opps (by omega), e1, lz_v0]
  refine ⟨?_, ?_, rfl⟩
  · show iv_sh N (lz_T (2 * N) (lr_K0 (2 * N))) (lz_T (2 * N) (lr_B0 (2 * N))) (nI 0)
    rw [e1, e2]; exact iv_sh_all
  · show iv_rr (lz_T (2 * N) (lr_K0 (2 * N))) _ k
    rw [e1]
    intro i hi j hj
    have e3 : lr_it (fun k R => vp_updL R k lr_E) 800 (fun _ => (0 : Int64)) (100 * k + (10 * i + j)) = lr_E := by
      have := lr_fill_at (f := fun _ => (0 : Int64)) (N := 800) (c := lr_E) (q := 100 * k + (10 * i + j))
      rw [if_pos (by omega)] at this
      exact this
    rw [e3, lz_v_E]
    unfold lz_hv lz_Z; split <;> rfl
theorem iv_startP {N : Nat} : iv_P N (fun _ => 0) (fun _ => 0) := fun i _ => ⟨rfl, (by decide : (-5000000000000000 : Int) ≤ (0 : Int64).toInt), (by decide : (0 : Int64).toInt ≤ (5000000000000000 : Int))⟩
theorem iv_startN {ne : Nat → Int64} {nA nB : Nat → Int32} {nC : Nat → Int64} : iv_N 0 ne nA nB nC := fun q hq => absurd hq (by omega)
