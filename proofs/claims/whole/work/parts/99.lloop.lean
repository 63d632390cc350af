/-! THE CLAIM OUT OF ONE WALK OF THE LAW'S BODY. Your part is whole_start (and what it stands on); all else here is the same for every law, but numbers. -/
def R_law : String := "LinearRowsLaw"
def lw_P (b : Addr) (xs : List Int32) (args : Array Value) (s : State) : Prop := args = #[.ref b] ∧ s.IntsAt b xs ∧ xs.length ≤ 3073 ∧ (Jvm.Cond.and given_1 narrow_1).before args s = true
def lw_Q (_ : Array Value) (s : State) (o : Outcome) (t : State) : Prop := o = .returned (some (.int 1)) ∧ Framed s o t [] 601024 7292999
def lw_Z (below : List Frame) (a : Array Value) (s : State) : State → Prop := fun t => ∃ o, t.status = .running ∧ Ended t below o ∧ lw_Q a s o t
/-- the law's own end, with 1 on the stack, nothing written that was there before, its room as the claim has it -/
theorem lw_ret {p : Program} {l : Launch} {e : Env} {s : State} {m : MethodId} {below : List Frame} {meth : Method} {c : Code} {b : Nat} (hx : p.tables.exec = Jvm.exec) (hb : c.code = code) (hr : meth.sig.returnType = ret) (hlocks : meth.locks = false) {pc : Nat} {H : Heap} {ls : Array Slot} (hdg : decode code pc = .ok (.ireturn, 1)) : W p l e room_1 s m #[Value.ref b] below meth c H [] 601024 7292999 (lw_Z below #[Value.ref b] s) (F0 m pc ls [.int 1]) := by
  intro T hT X
  obtain ⟨fs, hret, hrun, hended, hW, hframe⟩ := X.leave (v := some (.int 1)) (hlocks := hlocks) (fun h => by rw [hr] at h; cases h)
  have hmeth' : T.vm.method? m = some meth := X.method'
  refine ⟨T.setFrames fs, ?_, .returned (some (.int 1)), hrun, hended, rfl, ⟨_, rfl⟩, hW, hframe⟩
  jvm_step X.here [X.here.top, hx, hb, hdg, hmeth', hr, ret, narrow_b1]
  (try refine ⟨rfl, ?_⟩); (try refine ⟨rfl, ?_⟩)
  first | (intro acts; rw [hret _ acts rfl rfl rfl]) | rw [hret _ _ rfl rfl rfl]
  exact Steps.refl _
/-- what holds at the law's entry: the machine, the code, the tables' words (any of lw_tbl by 'hts w (by decide +kernel)'), the script of L ints xs at the cell b, what the Statement gives of the start (any of its parts by flat_of_before) -/
def lw_At (p : Program) (s : State) (m : MethodId) (meth : Method) (c : Code) (b L : Nat) (xs : Nat → Int32) : Prop :=
  p.tables.exec = Jvm.exec ∧ c.code = code ∧ meth.sig.returnType = ret ∧ c.maxLocals = 8 ∧ s.vm.findClass R_law = some m.cls ∧ (∀ w ∈ lw_tbl, w.before #[Value.ref b] s = true) ∧ va_X b L xs s s.heap ∧ b < s.heap.size ∧ meth.locks = false ∧ (Jvm.Cond.and given_1 narrow_1).before #[Value.ref b] s = true
theorem lw_sub {L i : Nat} (hL : L ≤ 3073) (hi : i ≤ 3079) : nI L - nI 6 < nI i ↔ L < i + 6 := by
  by_cases h : 6 ≤ L
  · have e : nI L - nI 6 = nI (L - 6) := by
      have e0 : nI L = nI (L - 6) + nI 6 := by rw [nI_add]; congr 1; omega
      rw [e0, Int32.add_sub_cancel]
    rw [e, nI_ltI (by omega) (by omega)]
    omega
  · have e0 : ∀ L, L < 6 → (nI L - nI 6).toInt < 0 := by decide
    have e1 := e0 L (by omega)
    rw [lr_lt, nI_toInt (n := i) (by omega)]
    omega
set_option maxHeartbeats 4000000 in
set_option maxRecDepth 100000 in
/-- THE LAW'S LOOP -/
theorem law_loop {p : Program} {l : Launch} {e : Env} {s : State} {m : MethodId} {below : List Frame} {meth : Method} {c : Code} {b L : Nat} {xs : Nat → Int32} {D : va_G} {cJ cI cZ cS : ClassId} {A A2 : Nat → Nat} {o N : Nat} {sf : Nat → Option Nat} (hlt : l.stackTraces = false) (hF : CallFix p m c code 8 s #[Value.ref b] lw_tbl R_L) (hr : meth.sig.returnType = ret) (hlocks : meth.locks = false) (hK : va_K D classes (gT cJ cI cZ cS) s) (hN : gN s) (hE : gE s.heap.size s s.heap) (hC : gC s) (hX : va_X b L xs s s.heap) (hbl : b < s.heap.size) (hL : L ≤ 3073) (hN1 : 1 ≤ N) (hN5 : N ≤ 5) : ∀ (n i : Nat), L < i + 6 * n + 6 → i ≤ 3079 → ∀ (w : va_W) (H : Heap) (locs : List Loc) (cells slots : Nat) (ls : Array Slot), LI cJ cI cZ cS A A2 o N sf w → va_P D classes w H → va_D (va_A [] s.heap.size) w → va_S (va_A [] s.heap.size) s.heap H locs → cells + 5 * n ≤ 601024 → slots + 30 * n ≤ 7292999 → lv_has ls 8 [(4, .int (nI i)), (3, .ref o), (2, .ref (A2 0)), (1, .ref (A 0)), (0, .ref b)] → W p l e room_1 s m #[Value.ref b] below meth c H locs cells slots (lw_Z below #[Value.ref b] s) (F0 m 33 ls []) := by
  have hx := hF.1
  have hb := hF.2.1
  have hB : ∀ q, va_A [] s.heap.size q → s.heap.size ≤ q := fun q h => by
    rcases h with ⟨k, e, h⟩ | h
    · exact absurd h (by simp)
    · exact h
  have hbA : ¬ va_A [] s.heap.size b := fun h => Nat.not_le.mpr hbl (hB b h)
  intro n
  induction n with
  | zero =>
    intro i hi hi2 w H locs cells slots ls hI hP hD hS hc hs hl
    refine lv_iload hx hb d_L_law_33 (lv_at hl 0 rfl) ?_
    refine lv_aload_n hx hb d_L_law_35 rfl (lv_at hl 4 rfl) ?_
    refine va_slen hx hb hX hbl hbA hS d_L_law_36 ?_
    refine lv_bipush (v := nI 6) hx hb d_L_law_37 (by decide) ?_
    refine lv_isub hx hb d_L_law_39 ?_
    refine lv_icmp_gt (tgt := 1733) hx hb d_L_law_40 (by decide) (fun c1 => ?_) (fun c1 => ?_)
    · refine lv_iconst (v := 1) hx hb d_L_law_1733 (by decide) ?_
      refine va_forget (fun q h => hB _ (hS.2.2 q h)) ?_
      refine W.widen (k := 601024) (n := 7292999) (by omega) (by omega) ?_
      exact lw_ret hx hb hr hlocks d_L_law_1734
    · exact absurd ((lw_sub hL hi2).mpr (by omega)) c1
  | succ n ih =>
    intro i hi hi2 w H locs cells slots ls hI hP hD hS hc hs hl
    refine lv_iload hx hb d_L_law_33 (lv_at hl 0 rfl) ?_
    refine lv_aload_n hx hb d_L_law_35 rfl (lv_at hl 4 rfl) ?_
    refine va_slen hx hb hX hbl hbA hS d_L_law_36 ?_
    refine lv_bipush (v := nI 6) hx hb d_L_law_37 (by decide) ?_
    refine lv_isub hx hb d_L_law_39 ?_
    refine lv_icmp_gt (tgt := 1733) hx hb d_L_law_40 (by decide) (fun c1 => ?_) (fun c1 => ?_)
    · refine lv_iconst (v := 1) hx hb d_L_law_1733 (by decide) ?_
      refine va_forget (fun q h => hB _ (hS.2.2 q h)) ?_
      refine W.widen (k := 601024) (n := 7292999) (by omega) (by omega) ?_
      exact lw_ret hx hb hr hlocks d_L_law_1734
    · have c1 : i + 6 ≤ L := Nat.not_lt.mp (fun z => c1 ((lw_sub hL hi2).mpr z))
      have kk : ∀ (w : va_W) (H : Heap) (locs : List Loc) (ls : Array Slot), LI cJ cI cZ cS A A2 o N sf w → va_P D classes w H → va_D (va_A [] s.heap.size) w → va_S (va_A [] s.heap.size) s.heap H locs → lv_has ls 8 [(4, .int (nI i)), (3, .ref o), (2, .ref (A2 0)), (1, .ref (A 0)), (0, .ref b)] → W p l e room_1 s m #[Value.ref b] below meth c H locs (cells + 5) (slots + 30) (lw_Z below #[Value.ref b] s) (F0 m 1727 ls []) := by
        intro w H locs ls hI hP hD hS hl
        refine lv_iinc (v := nI (i + 6)) (lv' := [(4, .int (nI (i + 6))), (3, .ref o), (2, .ref (A2 0)), (1, .ref (A 0)), (0, .ref b)]) hx hb d_L_law_1727 hl (k := 0) rfl (nI_add i 6) (by decide) rfl (fun ls hl => ?_)
        refine lv_goto (tgt := 33) hx hb d_L_law_1730 (by decide) ?_
        exact ih (i + 6) (by omega) (by omega) w H locs (cells + 5) (slots + 30) ls hI hP hD hS (by omega) (by omega) hl
      refine lv_aload_n hx hb d_L_law_43 rfl (lv_at hl 4 rfl) ?_
      refine lv_iload hx hb d_L_law_44 (lv_at hl 0 rfl) ?_
      refine gl_ld (j := i) hx hb hX hbl hbA hS (by omega) hL d_L_law_46 ?_
      refine lv_bipush (v := nI 31) hx hb d_L_law_47 (by decide) ?_
      refine lv_iand hx hb d_L_law_49 ?_
      generalize xs i &&& nI 31 = x
      by_cases hz : x.toInt < 0 ∨ 20 < x.toInt
      · refine lv_tableOut (tgt := 1727) hx hb d_L_law_50 hz (by decide) ?_
        refine W.widen (k := cells + 5) (n := slots + 30) (by omega) (by omega) ?_
        exact kk w H locs ls hI hP hD hS hl
      · have z1 : ¬ x.toInt < 0 := fun z => hz (Or.inl z)
        have z2 : ¬ 20 < x.toInt := fun z => hz (Or.inr z)
        rcases (show x.toInt = 0 ∨ x.toInt = 1 ∨ x.toInt = 2 ∨ x.toInt = 3 ∨ x.toInt = 4 ∨ x.toInt = 5 ∨ x.toInt = 6 ∨ x.toInt = 7 ∨ x.toInt = 8 ∨ x.toInt = 9 ∨ x.toInt = 10 ∨ x.toInt = 11 ∨ x.toInt = 12 ∨ x.toInt = 13 ∨ x.toInt = 14 ∨ x.toInt = 15 ∨ x.toInt = 16 ∨ x.toInt = 17 ∨ x.toInt = 18 ∨ x.toInt = 19 ∨ x.toInt = 20 by omega) with hk | hk | hk | hk | hk | hk | hk | hk | hk | hk | hk | hk | hk | hk | hk | hk | hk | hk | hk | hk | hk
        · refine lv_tableIn (off := 98) (tgt := 148) hx hb d_L_law_50 z1 z2 (by rw [hk]; rfl) (by decide) ?_
          exact lc_all hlt hF hK hN hE hC hX hbl c1 hL hN1 hN5 hI hP hD hS (by omega) (by omega) hl kk
        · refine lv_tableIn (off := 134) (tgt := 184) hx hb d_L_law_50 z1 z2 (by rw [hk]; rfl) (by decide) ?_
          exact lc_row hlt hF hK hN hE hC hX hbl c1 hL hN1 hN5 hI hP hD hS (by omega) (by omega) hl kk
        · refine lv_tableIn (off := 258) (tgt := 308) hx hb d_L_law_50 z1 z2 (by rw [hk]; rfl) (by decide) ?_
          exact lc_bound hlt hF hK hN hE hC hX hbl c1 hL hN1 hN5 hI hP hD hS (by omega) (by omega) hl kk
        · refine lv_tableIn (off := 337) (tgt := 387) hx hb d_L_law_50 z1 z2 (by rw [hk]; rfl) (by decide) ?_
          exact lc_kept hlt hF hK hN hE hC hX hbl c1 hL hN1 hN5 hI hP hD hS (by omega) (by omega) hl kk
        · refine lv_tableIn (off := 416) (tgt := 466) hx hb d_L_law_50 z1 z2 (by rw [hk]; rfl) (by decide) ?_
          exact lc_meet hlt hF hK hN hE hC hX hbl c1 hL hN1 hN5 hI hP hD hS (by omega) (by omega) hl kk
        · refine lv_tableIn (off := 496) (tgt := 546) hx hb d_L_law_50 z1 z2 (by rw [hk]; rfl) (by decide) ?_
          exact lc_join hlt hF hK hN hE hC hX hbl c1 hL hN1 hN5 hI hP hD hS (by omega) (by omega) hl kk
        · refine lv_tableIn (off := 576) (tgt := 626) hx hb d_L_law_50 z1 z2 (by rw [hk]; rfl) (by decide) ?_
          exact lc_widen hlt hF hK hN hE hC hX hbl c1 hL hN1 hN5 hI hP hD hS (by omega) (by omega) hl kk
        · refine lv_tableIn (off := 656) (tgt := 706) hx hb d_L_law_50 z1 z2 (by rw [hk]; rfl) (by decide) ?_
          exact lc_narrow hlt hF hK hN hE hC hX hbl c1 hL hN1 hN5 hI hP hD hS (by omega) (by omega) hl kk
        · refine lv_tableIn (off := 736) (tgt := 786) hx hb d_L_law_50 z1 z2 (by rw [hk]; rfl) (by decide) ?_
          exact lc_copy hlt hF hK hN hE hC hX hbl c1 hL hN1 hN5 hI hP hD hS (by omega) (by omega) hl kk
        · refine lv_tableIn (off := 784) (tgt := 834) hx hb d_L_law_50 z1 z2 (by rw [hk]; rfl) (by decide) ?_
          exact lc_set hlt hF hK hN hE hC hX hbl c1 hL hN1 hN5 hI hP hD hS (by omega) (by omega) hl kk
        · refine lv_tableIn (off := 908) (tgt := 958) hx hb d_L_law_50 z1 z2 (by rw [hk]; rfl) (by decide) ?_
          exact lc_forget hlt hF hK hN hE hC hX hbl c1 hL hN1 hN5 hI hP hD hS (by omega) (by omega) hl kk
        · refine lv_tableIn (off := 976) (tgt := 1026) hx hb d_L_law_50 z1 z2 (by rw [hk]; rfl) (by decide) ?_
          exact lc_within hlt hF hK hN hE hC hX hbl c1 hL hN1 hN5 hI hP hD hS (by omega) (by omega) hl kk
        · refine lv_tableIn (off := 1051) (tgt := 1101) hx hb d_L_law_50 z1 z2 (by rw [hk]; rfl) (by decide) ?_
          exact lc_put hlt hF hK hN hE hC hX hbl c1 hL hN1 hN5 hI hP hD hS (by omega) (by omega) hl kk
        · refine lv_tableIn (off := 1150) (tgt := 1200) hx hb d_L_law_50 z1 z2 (by rw [hk]; rfl) (by decide) ?_
          exact lc_point hlt hF hK hN hE hC hX hbl c1 hL hN1 hN5 hI hP hD hS (by omega) (by omega) hl kk
        · refine lv_tableIn (off := 1205) (tgt := 1255) hx hb d_L_law_50 z1 z2 (by rw [hk]; rfl) (by decide) ?_
          exact lc_has hlt hF hK hN hE hC hX hbl c1 hL hN1 hN5 hI hP hD hS (by omega) (by omega) hl kk
        · refine lv_tableIn (off := 1268) (tgt := 1318) hx hb d_L_law_50 z1 z2 (by rw [hk]; rfl) (by decide) ?_
          exact lc_sample hlt hF hK hN hE hC hX hbl c1 hL hN1 hN5 hI hP hD hS (by omega) (by omega) hl kk
        · refine lv_tableIn (off := 1331) (tgt := 1381) hx hb d_L_law_50 z1 z2 (by rw [hk]; rfl) (by decide) ?_
          exact lc_needed hlt hF hK hN hE hC hX hbl c1 hL hN1 hN5 hI hP hD hS (by omega) (by omega) hl kk
        · refine lv_tableIn (off := 1387) (tgt := 1437) hx hb d_L_law_50 z1 z2 (by rw [hk]; rfl) (by decide) ?_
          exact lc_needs hlt hF hK hN hE hC hX hbl c1 hL hN1 hN5 hI hP hD hS (by omega) (by omega) hl kk
        · refine lv_tableIn (off := 1454) (tgt := 1504) hx hb d_L_law_50 z1 z2 (by rw [hk]; rfl) (by decide) ?_
          exact lc_fits hlt hF hK hN hE hC hX hbl c1 hL hN1 hN5 hI hP hD hS (by omega) (by omega) hl kk
        · refine lv_tableIn (off := 1541) (tgt := 1591) hx hb d_L_law_50 z1 z2 (by rw [hk]; rfl) (by decide) ?_
          exact lc_array hlt hF hK hN hE hC hX hbl c1 hL hN1 hN5 hI hP hD hS (by omega) (by omega) hl kk
        · refine lv_tableIn (off := 1621) (tgt := 1671) hx hb d_L_law_50 z1 z2 (by rw [hk]; rfl) (by decide) ?_
          exact lc_told hlt hF hK hN hE hC hX hbl c1 hL hN1 hN5 hI hP hD hS (by omega) (by omega) hl kk
