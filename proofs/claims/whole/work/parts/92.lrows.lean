/-! THE LAW: its helpers catch what LinearRows throws -/
def gC (U : State) : Prop := va_Nc xIAE xIOOB U ∧ va_Nc xARI xIOOB U ∧ va_Nc xARI xIAE U
theorem gC.warm {s U : State} (hW : s.WarmedH U.vm) (h : gC s) : gC U := ⟨va_Nc.moved hW.alike h.1, va_Nc.moved hW.alike h.2.1, va_Nc.moved hW.alike h.2.2⟩
abbrev gh_Pc (D : va_G) (cl : List vw_C) (tys : List (ClassId × FieldType)) (av : List Value) (ws : va_W) (sz base : Nat) : Array Value → State → Prop := va_Pc av (fun U => (U.heap.size = sz ∧ va_P D cl ws U.heap ∧ va_K D cl tys U ∧ va_D (fun q => base ≤ q) ws ∧ gN U ∧ gE base U U.heap ∧ base ≤ sz) ∧ gC U)
section LH
variable {l : Launch} {y : MethodName} {rm : Room} {D : va_G} {cl : List vw_C} {tys : List (ClassId × FieldType)} {av : List Value} {ws : va_W} {sz base : Nat} {mc ms : Nat} {cc : ByteArray} {maxL : Nat} {ret : Option FieldType} {Qc : Array Value → State → Outcome → State → Prop} {hh : List (Nat × Nat × Nat × Nat)}
theorem gh_blind : FrameBlind (gh_Pc D cl tys av ws sz base) := fun a U g mk q => by
  obtain ⟨q0, ⟨q1, qP, qK, qD, qN, qE, qb⟩, qC⟩ := q
  exact ⟨q0, ⟨q1, qP, va_K.moved (u := U) (U := U.calling g mk a) (Vm.Alike.refl U.vm) qK, qD, gN.warm (s := U) (U := U.calling g mk a) (State.WarmedH.refl U) qN, qE.move (U := U.calling g mk a) (A := fun q => base ≤ q) va_S.rf (fun _ h => h) rfl (State.WarmedH.refl U), qb⟩, gC.warm (s := U) (U := U.calling g mk a) (State.WarmedH.refl U) qC⟩
theorem gh_head (hy : plainName y.cls = true) (hn : (lg_sl av).length ≤ maxL)
    (body : ∀ (p : Program) (e : Env) (s : State) (m : MethodId) (below : List Frame) (meth : Method) (c : Code), s.heap.size = sz → p.tables.exec = Jvm.exec → c.code = cc → meth.sig.returnType = ret → meth.locks = false → c.maxLocals = maxL → s.vm.findClass y.cls = some m.cls → (∀ w ∈ Cond.codeWith y cc maxL ret hh :: wG, w.before av.toArray s = true) → va_K D cl tys s → gN s → va_P D cl ws s.heap → va_D (va_A ws sz) ws → va_S (va_A ws sz) s.heap s.heap [] → (∀ q, s.heap.size ≤ q → va_A ws sz q) → (∀ q, va_A ws sz q → base ≤ q) → gE base s s.heap → gC s → c.exceptionTable.toList = tableOf hh → ∀ (ls : Array Slot), lv_has ls maxL (lv_args 0 av) →
      W p l e rm s m av.toArray below meth c s.heap [] 0 0 (MQ below Qc av.toArray s mc ms (va_A ws sz)) (F0 m 0 ls [])) :
    Met l y (Cond.codeWith y cc maxL ret hh :: wG) rm (gh_Pc D cl tys av ws sz base) Qc mc ms (va_A ws sz) := by
  refine va_MetW (cc := cc) (maxL := maxL) (ret := ret) (hh := hh) hy rfl ?_
  intro p e s m args below meth c s₁ B hml hv
  obtain ⟨rfl, ⟨hsz, hP, hK, hD0, hN, hE, hbs⟩, hC⟩ := hv
  have hts := atoms_spec (ws := Cond.codeWith y cc maxL ret hh :: wG) B.pre
  have htab := vx_table (x := y) B (hts _ List.mem_cons_self)
  subst hsz
  rw [lg_entry_eq]
  refine body p e s m below meth c rfl B.exec B.bytes B.returns B.notSynchronized hml (findClass_of_methodNamed B.named) hts hK hN hP hD0.self va_S.rf (fun q h => Or.inr h) (fun q h => ?_) hE hC htab _ (lv_entry av hn)
  rcases h with ⟨k, e, h⟩ | h
  · exact hD0.2 k _ h
  · exact Nat.le_trans hbs h
end LH
section LC
variable {p : Program} {l : Launch} {e : Env} {R : Room} {s : State} {m : MethodId} {args : Array Value} {below : List Frame} {meth : Method} {c : Code} {H : Heap} {locs : List Loc} {cells slots : Nat} {Q : State → Prop}
variable {D : va_G} {cl : List vw_C} {tys : List (ClassId × FieldType)} {ws ws0 : va_W} {sz0 base mc1 ms1 : Nat} {pc : Nat} {ls : Array Slot} {rest st0 : List Value} {cc : ByteArray} {a : Array Value} {xq : String → va_W → Prop}
theorem gh_pre {av : List Value} (hK : va_K D cl tys s) (hN : gN s) (hP : va_P D cl ws H) (hD : va_D (va_A ws0 sz0) ws) (hS : va_S (va_A ws0 sz0) s.heap H locs) (hB : ∀ q, va_A ws0 sz0 q → base ≤ q) (hA : ∀ q, s.heap.size ≤ q → va_A ws0 sz0 q) (hE : gE base s s.heap) (hC : gC s) : ∀ U : State, U.heap = H → s.WarmedH U.vm → gh_Pc D cl tys av ws H.size base av.toArray U := fun U hU hW =>
  ⟨rfl, (gx_pre (av := av) hK hN hP hD hS hB hA hE U hU hW).2, gC.warm hW hC⟩
theorem gh_cv {post : va_W → Prop} (hr : vx_Run p l e R s m args below meth c H locs cells slots mc1 ms1 (F0 m pc ls st0) rest (va_Qv post (gw_B D cl tys ws H.size) (va_A ws H.size) a) (gX D cl tys ws H.size xq) (va_A ws H.size)) (hD : va_D (va_A ws0 sz0) ws) (hS : va_S (va_A ws0 sz0) s.heap H locs) (hA : ∀ q, s.heap.size ≤ q → va_A ws0 sz0 q)
    (kx : ∀ (E : String) (ce : Cell) (q9 : Addr) (w : va_W) (H1 : Heap) (locs1 : List Loc), xq E w → va_P D cl w H1 → va_D (va_A ws0 sz0) w → va_S (va_A ws0 sz0) s.heap H1 locs1 → H1[q9]? = some ce → ce.vm = .none → s.vm.findClass E = some ce.cls → vx_W p l e R s m args below meth c H1 locs1 (cells + mc1) (slots + ms1) Q (F0 m pc ls rest) q9)
    (kk : ∀ (w : va_W) (H1 : Heap) (locs1 : List Loc), post w → va_P D cl w H1 → va_D (va_A ws0 sz0) w → va_S (va_A ws0 sz0) s.heap H1 locs1 → W p l e R s m args below meth c H1 locs1 (cells + mc1) (slots + ms1) Q (F0 m (pc + 3) ls rest)) :
    W p l e R s m args below meth c H locs cells slots Q (F0 m pc ls st0) := by
  have hF := gw_fr hD hS hA
  refine vx_callv hr hS (fun q _ h => hF q h) hF (fun q _ h => hF q h) (fun E ce q9 u t H1 locs1 ht _ _ hB _ _ hS1 hce hcv hcl => ?_) (fun u t H1 locs1 ht _ hw hB _ _ hS1 => ?_)
  · obtain ⟨hx, hP1, -, hD1⟩ := hB
    rw [ht] at hP1
    exact kx E ce q9 u H1 locs1 hx hP1 (hD1.weaken (fun _ _ _ h => hF _ h)) hS1 hce hcv hcl
  · obtain ⟨hP1, _, hD1⟩ := hB
    rw [ht] at hP1
    exact kk u H1 locs1 hw hP1 (hD1.weaken (fun _ _ _ h => hF _ h)) hS1
theorem gh_ci {post : Int32 → va_W → Prop} (hr : vx_Run p l e R s m args below meth c H locs cells slots mc1 ms1 (F0 m pc ls st0) rest (va_Qi post (gw_B D cl tys ws H.size) (va_A ws H.size) a) (gX D cl tys ws H.size xq) (va_A ws H.size)) (hD : va_D (va_A ws0 sz0) ws) (hS : va_S (va_A ws0 sz0) s.heap H locs) (hA : ∀ q, s.heap.size ≤ q → va_A ws0 sz0 q)
    (kx : ∀ (E : String) (ce : Cell) (q9 : Addr) (w : va_W) (H1 : Heap) (locs1 : List Loc), xq E w → va_P D cl w H1 → va_D (va_A ws0 sz0) w → va_S (va_A ws0 sz0) s.heap H1 locs1 → H1[q9]? = some ce → ce.vm = .none → s.vm.findClass E = some ce.cls → vx_W p l e R s m args below meth c H1 locs1 (cells + mc1) (slots + ms1) Q (F0 m pc ls rest) q9)
    (kk : ∀ (r : Int32) (w : va_W) (H1 : Heap) (locs1 : List Loc), post r w → va_P D cl w H1 → va_D (va_A ws0 sz0) w → va_S (va_A ws0 sz0) s.heap H1 locs1 → W p l e R s m args below meth c H1 locs1 (cells + mc1) (slots + ms1) Q (F0 m (pc + 3) ls (.int r :: rest))) :
    W p l e R s m args below meth c H locs cells slots Q (F0 m pc ls st0) := by
  have hF := gw_fr hD hS hA
  refine vx_calli hr hS (fun q _ h => hF q h) hF (fun q _ h => hF q h) (fun E ce q9 u t H1 locs1 ht _ _ hB _ _ hS1 hce hcv hcl => ?_) (fun r u t H1 locs1 ht _ hw hB _ _ hS1 => ?_)
  · obtain ⟨hx, hP1, -, hD1⟩ := hB
    rw [ht] at hP1
    exact kx E ce q9 u H1 locs1 hx hP1 (hD1.weaken (fun _ _ _ h => hF _ h)) hS1 hce hcv hcl
  · obtain ⟨hP1, _, hD1⟩ := hB
    rw [ht] at hP1
    exact kk r u H1 locs1 hw hP1 (hD1.weaken (fun _ _ _ h => hF _ h)) hS1
theorem gh_cl {post : Int64 → va_W → Prop} (hr : vx_Run p l e R s m args below meth c H locs cells slots mc1 ms1 (F0 m pc ls st0) rest (va_Ql post (gw_B D cl tys ws H.size) (va_A ws H.size) a) (gX D cl tys ws H.size xq) (va_A ws H.size)) (hD : va_D (va_A ws0 sz0) ws) (hS : va_S (va_A ws0 sz0) s.heap H locs) (hA : ∀ q, s.heap.size ≤ q → va_A ws0 sz0 q)
    (kx : ∀ (E : String) (ce : Cell) (q9 : Addr) (w : va_W) (H1 : Heap) (locs1 : List Loc), xq E w → va_P D cl w H1 → va_D (va_A ws0 sz0) w → va_S (va_A ws0 sz0) s.heap H1 locs1 → H1[q9]? = some ce → ce.vm = .none → s.vm.findClass E = some ce.cls → vx_W p l e R s m args below meth c H1 locs1 (cells + mc1) (slots + ms1) Q (F0 m pc ls rest) q9)
    (kk : ∀ (r : Int64) (w : va_W) (H1 : Heap) (locs1 : List Loc), post r w → va_P D cl w H1 → va_D (va_A ws0 sz0) w → va_S (va_A ws0 sz0) s.heap H1 locs1 → W p l e R s m args below meth c H1 locs1 (cells + mc1) (slots + ms1) Q (F0 m (pc + 3) ls (.long r :: rest))) :
    W p l e R s m args below meth c H locs cells slots Q (F0 m pc ls st0) := by
  have hF := gw_fr hD hS hA
  refine vx_calll hr hS (fun q _ h => hF q h) hF (fun q _ h => hF q h) (fun E ce q9 u t H1 locs1 ht _ _ hB _ _ hS1 hce hcv hcl => ?_) (fun r u t H1 locs1 ht _ hw hB _ _ hS1 => ?_)
  · obtain ⟨hx, hP1, -, hD1⟩ := hB
    rw [ht] at hP1
    exact kx E ce q9 u H1 locs1 hx hP1 (hD1.weaken (fun _ _ _ h => hF _ h)) hS1 hce hcv hcl
  · obtain ⟨hP1, _, hD1⟩ := hB
    rw [ht] at hP1
    exact kk r u H1 locs1 hw hP1 (hD1.weaken (fun _ _ _ h => hF _ h)) hS1
/-- the three catches -/
theorem gh_c1 {Ts : List Cond} {nL : Nat} (hF : CallFix p m c cc nL s args Ts R_L) (hT : ∀ w ∈ wG, w ∈ Ts) (hN : gN s) {ce : Cell} {q : Addr} {u v h : Nat} {suf : List (Nat × Nat × Nat × Nat)} (htab : c.exceptionTable.toList = tableOf ((u, v, h, 13) :: suf)) (hcov : covers ⟨u, v, h, 13⟩ pc = true) (hcell : H[q]? = some ce) (hv : ce.vm = .none) (hcl : s.vm.findClass xIOOB = some ce.cls)
    (kk : W p l e R s m args below meth c H locs cells slots Q (F0 m h ls [.ref q])) : vx_W p l e R s m args below meth c H locs cells slots Q (F0 m pc ls rest) q :=
  vx_catch (own := R_L) (name := xIOOB) hF.2.2.2.1 [] ⟨u, v, h, 13⟩ (tableOf suf) htab (fun z hz => absurd hz List.not_mem_nil) hcov (show (13 : Nat) ≠ 0 by decide) (hF.2.2.2.2 _ (hT _ wm_1_109)) (va_Nw.use (by decide) (gN_3 hN)) hcell hv hcl kk
theorem gh_c2 {Ts : List Cond} {nL : Nat} (hF : CallFix p m c cc nL s args Ts R_L) (hT : ∀ w ∈ wG, w ∈ Ts) (hN : gN s) (hC : gC s) {ce : Cell} {q : Addr} {u v h h1 : Nat} {suf : List (Nat × Nat × Nat × Nat)} (htab : c.exceptionTable.toList = tableOf ((u, v, h1, 13) :: (u, v, h, 19) :: suf)) (hcov : covers ⟨u, v, h, 19⟩ pc = true) (hcell : H[q]? = some ce) (hv : ce.vm = .none) (hcl : s.vm.findClass xIAE = some ce.cls)
    (kk : W p l e R s m args below meth c H locs cells slots Q (F0 m h ls [.ref q])) : vx_W p l e R s m args below meth c H locs cells slots Q (F0 m pc ls rest) q :=
  vx_catch (own := R_L) (name := xIAE) hF.2.2.2.1 [⟨u, v, h1, 13⟩] ⟨u, v, h, 19⟩ (tableOf suf) htab (fun z hz => by
    rw [List.mem_singleton] at hz
    subst hz
    exact Or.inr ⟨show (13 : Nat) ≠ 0 by decide, xIOOB, hF.2.2.2.2 _ (hT _ wm_1_109), hC.1⟩) hcov (show (19 : Nat) ≠ 0 by decide) (hF.2.2.2.2 _ (hT _ wm_1_196)) (va_Nw.use (by decide) (gN_10 hN)) hcell hv hcl kk
theorem gh_c3 {Ts : List Cond} {nL : Nat} (hF : CallFix p m c cc nL s args Ts R_L) (hT : ∀ w ∈ wG, w ∈ Ts) (hN : gN s) (hC : gC s) {ce : Cell} {q : Addr} {u v h h1 h2 : Nat} {suf : List (Nat × Nat × Nat × Nat)} (htab : c.exceptionTable.toList = tableOf ((u, v, h1, 13) :: (u, v, h2, 19) :: (u, v, h, 21) :: suf)) (hcov : covers ⟨u, v, h, 21⟩ pc = true) (hcell : H[q]? = some ce) (hv : ce.vm = .none) (hcl : s.vm.findClass xARI = some ce.cls)
    (kk : W p l e R s m args below meth c H locs cells slots Q (F0 m h ls [.ref q])) : vx_W p l e R s m args below meth c H locs cells slots Q (F0 m pc ls rest) q :=
  vx_catch (own := R_L) (name := xARI) hF.2.2.2.1 [⟨u, v, h1, 13⟩, ⟨u, v, h2, 19⟩] ⟨u, v, h, 21⟩ (tableOf suf) htab (fun z hz => by
    rcases List.mem_cons.mp hz with hz | hz
    · subst hz
      exact Or.inr ⟨show (13 : Nat) ≠ 0 by decide, xIOOB, hF.2.2.2.2 _ (hT _ wm_1_109), hC.2.1⟩
    · rw [List.mem_singleton] at hz
      subst hz
      exact Or.inr ⟨show (19 : Nat) ≠ 0 by decide, xIAE, hF.2.2.2.2 _ (hT _ wm_1_196), hC.2.2⟩) hcov (show (21 : Nat) ≠ 0 by decide) (hF.2.2.2.2 _ (hT _ wm_1_197)) (va_Nw.use (by decide) (gN_13 hN)) hcell hv hcl kk
theorem gh_c4 {Ts : List Cond} {nL : Nat} (hF : CallFix p m c cc nL s args Ts R_L) (hT : ∀ w ∈ wG, w ∈ Ts) (hN : gN s) (hC : gC s) {ce : Cell} {q : Addr} {u v h h1 : Nat} {suf : List (Nat × Nat × Nat × Nat)} (htab : c.exceptionTable.toList = tableOf ((u, v, h1, 13) :: (u, v, h, 21) :: suf)) (hcov : covers ⟨u, v, h, 21⟩ pc = true) (hcell : H[q]? = some ce) (hv : ce.vm = .none) (hcl : s.vm.findClass xARI = some ce.cls)
    (kk : W p l e R s m args below meth c H locs cells slots Q (F0 m h ls [.ref q])) : vx_W p l e R s m args below meth c H locs cells slots Q (F0 m pc ls rest) q :=
  vx_catch (own := R_L) (name := xARI) hF.2.2.2.1 [⟨u, v, h1, 13⟩] ⟨u, v, h, 21⟩ (tableOf suf) htab (fun z hz => by
    rw [List.mem_singleton] at hz
    subst hz
    exact Or.inr ⟨show (13 : Nat) ≠ 0 by decide, xIOOB, hF.2.2.2.2 _ (hT _ wm_1_109), hC.2.1⟩) hcov (show (21 : Nat) ≠ 0 by decide) (hF.2.2.2.2 _ (hT _ wm_1_197)) (va_Nw.use (by decide) (gN_13 hN)) hcell hv hcl kk
end LC
/-- what a helper answers: 0, and the answer stored; or the number of what was thrown -/
def hq_v (CP : va_W → Prop) (XP : String → va_W → Prop) (cd : String → Int32) : Int32 → va_W → Prop := fun r w => (r = nI 0 ∧ CP w) ∨ (∃ Z, XP Z w ∧ r = cd Z)
def hq_i (cJ : ClassId) (bo o : Nat) {α : Type} (v : α → Int64) (CP : α → va_W → Prop) (XP : String → va_W → Prop) (cd : String → Int32) : Int32 → va_W → Prop := fun r w => (r = nI 0 ∧ ∃ r1 w1 f, CP r1 w1 ∧ w[bo]? = some (o, .inl (cJ, 1, .inr (.inl (vp_updL f 0 (v r1))))) ∧ gF bo (bo + 1) w1 w) ∨ (∃ Z, XP Z w ∧ r = cd Z)
/-- codes of what is thrown -/
def cd_1 (Z : String) : Int32 := if Z = xIOOB then nI 1 else nI 0
def cd_12 (Z : String) : Int32 := if Z = xIOOB then nI 1 else nI 2
def cd_13 (Z : String) : Int32 := if Z = xIOOB then nI 1 else nI 2
def cd_123 (Z : String) : Int32 := if Z = xIOOB then nI 1 else if Z = xIAE then nI 2 else nI 3
