/-! METHODS THAT MAY THROW: what they need of the start beside their world, heads, throws, calls -/
def xStr : List (Nat × String) := [(196, "no such shape"), (200, "no such term"), (206, "the number is not -1000000000 to 1000000000"), (213, "a bound is beyond 10^15"), (198, "no such name"), (165, "no such needed row, or no such part of it"), (172, "bits is not 1 to 62"), (175, "index and length are the same name"), (187, "what is not 0 to 9")]
def gE (base : Nat) (U : State) (H : Heap) : Prop := (∀ q ∈ xStr, ∃ a, vk_R "LinearRows" q.1 q.2 a U) ∧ vx_Zq Bundle.tN "UNASSIGNED_STACK" Bundle.steD (fun q => base ≤ q) U H ∧ vx_Zq Bundle.tN "SUPPRESSED_SENTINEL" Bundle.listD (fun q => base ≤ q) U H
theorem gE.move {base : Nat} {s U : State} {A : Nat → Prop} {H : Heap} {locs : List Loc} (h : gE base s s.heap) (hS : va_S A s.heap H locs) (hA : ∀ q, A q → base ≤ q) (hU : U.heap = H) (hW : s.WarmedH U.vm) : gE base U U.heap := by
  obtain ⟨h1, h2, h3⟩ := h
  have hk : ∀ a : Nat, a < s.heap.size → ¬ base ≤ a → H[a]? = s.heap[a]? := fun a ha hb => hS.2.1 a ha (fun q => hb (hA a q))
  refine ⟨fun q hq => ?_, ?_, ?_⟩
  · obtain ⟨a, ha⟩ := h1 q hq
    exact ⟨a, vk_R.warm hW ha⟩
  · rw [hU]; exact vx_Zq.moved hW.alike (h2.kept hk)
  · rw [hU]; exact vx_Zq.moved hW.alike (h3.kept hk)
theorem gE.str {base : Nat} {s : State} {H : Heap} (h : gE base s H) (k : Nat) {i : Nat} {t : String} (hk : xStr[k]? = some (i, t)) : ∃ a, vk_R R_X i t a s := h.1 _ (List.mem_of_getElem? hk)
abbrev gx_Pc (D : va_G) (cl : List vw_C) (tys : List (ClassId × FieldType)) (av : List Value) (ws : va_W) (sz base : Nat) : Array Value → State → Prop := va_Pc av (fun U => U.heap.size = sz ∧ va_P D cl ws U.heap ∧ va_K D cl tys U ∧ va_D (fun q => base ≤ q) ws ∧ gN U ∧ gE base U U.heap ∧ base ≤ sz)
abbrev gX (D : va_G) (cl : List vw_C) (tys : List (ClassId × FieldType)) (ws : va_W) (sz : Nat) (xp : String → va_W → Prop) : String → State → State → Prop := vx_X (fun _ : va_W => True) (fun E w t => xp E w ∧ gw_B D cl tys ws sz w t) (va_A ws sz)
section XH
variable {l : Launch} {y : MethodName} {rm : Room} {D : va_G} {cl : List vw_C} {tys : List (ClassId × FieldType)} {av : List Value} {ws : va_W} {sz base : Nat} {mc ms : Nat} {cc : ByteArray} {maxL : Nat} {ret : Option FieldType} {Qc : Array Value → State → Outcome → State → Prop} {XC : String → State → State → Prop}
theorem gx_head (hy : plainName y.cls = true) (hn : (lg_sl av).length ≤ maxL)
    (body : ∀ (p : Program) (e : Env) (s : State) (m : MethodId) (below : List Frame) (meth : Method) (c : Code), s.heap.size = sz → p.tables.exec = Jvm.exec → c.code = cc → meth.sig.returnType = ret → meth.locks = false → c.maxLocals = maxL → s.vm.findClass y.cls = some m.cls → meth.name = y.name → (∀ w ∈ Cond.code y cc maxL ret :: wG, w.before av.toArray s = true) → va_K D cl tys s → gN s → va_P D cl ws s.heap → va_D (va_A ws sz) ws → va_S (va_A ws sz) s.heap s.heap [] → (∀ q, s.heap.size ≤ q → va_A ws sz q) → (∀ q, va_A ws sz q → base ≤ q) → gE base s s.heap → (∀ (x : ExceptionTableEntry), x ∈ c.exceptionTable.toList → False) → ∀ (ls : Array Slot), lv_has ls maxL (lv_args 0 av) →
      W p l e rm s m av.toArray below meth c s.heap [] 0 0 (vx_MQ below Qc XC av.toArray s mc ms (va_A ws sz)) (F0 m 0 ls [])) :
    vx_Met l y (Cond.code y cc maxL ret :: wG) rm (gx_Pc D cl tys av ws sz base) Qc XC mc ms (va_A ws sz) := by
  refine vx_ofW (cc := cc) (maxL := maxL) (ret := ret) hy rfl ?_
  intro p e s m args below meth c s₁ B hml hno hv
  obtain ⟨rfl, hsz, hP, hK, hD0, hN, hE, hbs⟩ := hv
  have hts := atoms_spec (ws := Cond.code y cc maxL ret :: wG) B.pre
  subst hsz
  rw [lg_entry_eq]
  refine body p e s m below meth c rfl B.exec B.bytes B.returns B.notSynchronized hml (findClass_of_methodNamed B.named) (name_of_methodNamed B.named B.method).1 hts hK hN hP hD0.self va_S.rf (fun q h => Or.inr h) (fun q h => ?_) hE hno _ (lv_entry av hn)
  rcases h with ⟨k, e, h⟩ | h
  · exact hD0.2 k _ h
  · exact Nat.le_trans hbs h
end XH
section XC
variable {p : Program} {l : Launch} {e : Env} {R : Room} {s : State} {m : MethodId} {args : Array Value} {below : List Frame} {meth : Method} {c : Code} {H : Heap} {locs : List Loc} {cells slots : Nat}
variable {D : va_G} {cl : List vw_C} {tys : List (ClassId × FieldType)} {ws ws0 : va_W} {sz0 base mc ms mc1 ms1 : Nat} {pc : Nat} {ls : Array Slot} {rest st0 As : List Value} {cc bytes : ByteArray} {nL maxL index n : Nat} {Ts : List Cond} {own C : String} {y : MethodName} {ret : Option FieldType} {rm : Room} {Qc Qd : Array Value → State → Outcome → State → Prop} {free : Addr → Prop} {b : Nat} {a : Array Value} {xp xq : String → va_W → Prop} {XC : String → State → State → Prop}
theorem gx_blind {av : List Value} {sz : Nat} : FrameBlind (gx_Pc D cl tys av ws sz base) := fun a U g mk q => by
  obtain ⟨q0, q1, qP, qK, qD, qN, qE, qb⟩ := q
  exact ⟨q0, q1, qP, va_K.moved (u := U) (U := U.calling g mk a) (Vm.Alike.refl U.vm) qK, qD, gN.warm (s := U) (U := U.calling g mk a) (State.WarmedH.refl U) qN, qE.move (U := U.calling g mk a) (A := fun q => base ≤ q) va_S.rf (fun _ h => h) rfl (State.WarmedH.refl U), qb⟩
theorem gx_pre {av : List Value} (hK : va_K D cl tys s) (hN : gN s) (hP : va_P D cl ws H) (hD : va_D (va_A ws0 sz0) ws) (hS : va_S (va_A ws0 sz0) s.heap H locs) (hB : ∀ q, va_A ws0 sz0 q → base ≤ q) (hA : ∀ q, s.heap.size ≤ q → va_A ws0 sz0 q) (hE : gE base s s.heap) : ∀ U : State, U.heap = H → s.WarmedH U.vm → gx_Pc D cl tys av ws H.size base av.toArray U := fun U hU hW =>
  ⟨rfl, by rw [hU], by rw [hU]; exact hP, va_K.moved hW.alike hK, hD.weaken (fun _ _ _ h => hB _ h), gN.warm hW hN, hE.move hS hB hU hW, hB _ (hA _ hS.1)⟩
/-- a static method of ours that may throw -/
theorem gx_rS (S : CallFix p m c cc nL s args Ts own) (hT : ∀ w ∈ wG, w ∈ Ts) (hM : vx_Met l y (Cond.code y bytes maxL ret :: wG) rm (gx_Pc D cl tys As ws H.size base) Qc XC mc ms free)
    (h1 : Cond.methodLink own index y ∈ wG) (h2 : Cond.static y ∈ wG) (h4 : Cond.initialized y.cls ∈ wG) (h5 : Cond.code y bytes maxL ret ∈ wG)
    (hd : y.cls ≠ "java/lang/invoke/MethodHandle" ∧ y.cls ≠ "java/lang/invoke/VarHandle" ∧ (parseMethodDescriptor y.desc).map (fun d => d.parameters.length) = some n) (hR : rm.frames + 1 ≤ R.frames ∧ 8 + (maxL + 11) + rm.locals ≤ R.locals) (hrc : rm.cells = mc) (hrs : rm.slots = ms)
    (hpre : ∀ U : State, U.heap = H → s.WarmedH U.vm → gx_Pc D cl tys As ws H.size base As.toArray U)
    (hn : As.length = n) (hsize : ls.size = nL) (hstack : st0 = As.reverse ++ rest) (hW : (rest.map fun v => v.category).sum ≤ 8) (hdg : decode cc pc = .ok (.invokestatic index, 3)) (hf : cells + mc ≤ R.cells ∧ slots + ms ≤ R.slots) :
    vx_Run p l e R s m args below meth c H locs cells slots mc ms (F0 m pc ls st0) rest (Qc As.toArray) XC free := by
  have hG : GoodIn Ts (va_wsS own index y (Cond.code y bytes maxL ret :: wG)) := gd_good hT (fun w hw => by
    unfold va_wsS at hw
    rcases List.mem_append.mp hw with h | h
    · simp only [List.mem_cons, List.not_mem_nil, or_false] at h
      rcases h with rfl | rfl | rfl
      · exact h1
      · exact h2
      · exact h4
    · exact gd_c h5 w h)
  exact vx_runS S hM (va_cwS n S.2.2.2.2 hG rfl hrc hrs hd hR) ⟨gx_blind, hpre⟩ rfl hn hsize hstack (lv_room hW) hdg hf
/-- a method of an object of ours that may throw -/
theorem gx_rV (S : CallFix p m c cc nL s args Ts own) (hT : ∀ w ∈ wG, w ∈ Ts) (hM : vx_Met l y (Cond.code y bytes maxL ret :: wG) rm (gx_Pc D cl tys (.ref b :: As) ws H.size base) Qc XC mc ms free)
    (h1 : Cond.methodLink own index y ∈ wG) (h2 : Cond.instanceMethod y ∈ wG) (h3 : Cond.selects C y y ∈ wG) (h4 : Cond.initialized C ∈ wG) (h5 : Cond.code y bytes maxL ret ∈ wG)
    (hd : y.cls = C ∧ y.cls ≠ "java/lang/invoke/MethodHandle" ∧ y.cls ≠ "java/lang/invoke/VarHandle" ∧ (parseMethodDescriptor y.desc).map (fun d => d.parameters.length) = some n) (hR : rm.frames + 1 ≤ R.frames ∧ 8 + (maxL + 11) + rm.locals ≤ R.locals) (hrc : rm.cells = mc) (hrs : rm.slots = ms)
    (hpre : ∀ U : State, U.heap = H → s.WarmedH U.vm → gx_Pc D cl tys (.ref b :: As) ws H.size base (Value.ref b :: As).toArray U)
    (hK : va_K D cl tys s) (hP : va_P D cl ws H) {ci q0 : Nat} {q : vw_C} {fs : List Value} (hc : cl[ci]? = some q) (hq : q.1 = C) (he : ws[q0]? = some (b, .inr (ci, fs)))
    (hn : As.length = n) (hsize : ls.size = nL) (hstack : st0 = As.reverse ++ .ref b :: rest) (hW : (rest.map fun v => v.category).sum ≤ 8) (hdg : decode cc pc = .ok (.invokevirtual index, 3)) (hf : cells + mc ≤ R.cells ∧ slots + ms ≤ R.slots) :
    vx_Run p l e R s m args below meth c H locs cells slots mc ms (F0 m pc ls st0) rest (Qc (Value.ref b :: As).toArray) XC free := by
  subst hq
  have hG : GoodIn Ts (wsV own index q.1 y (Cond.code y bytes maxL ret :: wG)) := gd_good hT (fun w hw => by
    unfold wsV at hw
    rcases List.mem_append.mp hw with h | h
    · simp only [List.mem_cons, List.not_mem_nil, or_false] at h
      rcases h with rfl | rfl | rfl | rfl
      · exact h1
      · exact h2
      · exact h3
      · exact h4
    · exact gd_c h5 w h)
  exact vx_runV S hM (cwV n S.2.2.2.2 hG rfl hrc hrs hd hR) ⟨gx_blind, va_recv hK hP hc he, hpre⟩ rfl hn hsize hstack (lv_room hW) hdg hf
/-- what a method that lets an exception through owes -/
theorem gx_thru (hK : va_K D cl tys s) (hD0 : ∀ q, va_A ws H.size q → va_A ws0 sz0 q) (hno : ∀ (x : ExceptionTableEntry), x ∈ c.exceptionTable.toList → False) (hlocks : meth.locks = false) (hc : cells ≤ mc) (hs : slots ≤ ms) (hxp : ∀ E w, xq E w → xp E w)
    {E : String} {ce : Cell} {q9 : Addr} {u : va_W} {t : State} {H1 : Heap} {locs1 : List Loc} (ht : t.heap = H1) (hB : xq E u ∧ gw_B D cl tys ws H.size u t) (hS1 : va_S (va_A ws0 sz0) s.heap H1 locs1) (hce : H1[q9]? = some ce) (hcv : ce.vm = .none) (hcl : s.vm.findClass E = some ce.cls) :
    vx_W p l e R s m args below meth c H1 locs1 cells slots (vx_MQ below Qd (gX D cl tys ws0 sz0 xp) args s mc ms (va_A ws0 sz0)) (F0 m pc ls rest) q9 := by
  obtain ⟨hx, hP1, -, hD1⟩ := hB
  rw [ht] at hP1
  exact vx_out (fun x h => (hno x h).elim) hlocks hce hcv hcl (fun t2 ht2 ha => ⟨u, trivial, ⟨hxp E u hx, by rw [ht2]; exact hP1, va_K.moved ha hK, hD1.weaken (fun _ _ _ h => hD0 _ h)⟩, hS1.F ht2⟩) hS1.2.2 hc hs
theorem gx_cv {post : va_W → Prop} (hr : vx_Run p l e R s m args below meth c H locs cells slots mc1 ms1 (F0 m pc ls st0) rest (va_Qv post (gw_B D cl tys ws H.size) (va_A ws H.size) a) (gX D cl tys ws H.size xq) (va_A ws H.size)) (hK : va_K D cl tys s) (hD : va_D (va_A ws0 sz0) ws) (hS : va_S (va_A ws0 sz0) s.heap H locs) (hA : ∀ q, s.heap.size ≤ q → va_A ws0 sz0 q) (hno : ∀ (x : ExceptionTableEntry), x ∈ c.exceptionTable.toList → False) (hlocks : meth.locks = false) (hc : cells + mc1 ≤ mc) (hs : slots + ms1 ≤ ms) (hxp : ∀ E w, xq E w → xp E w)
    (kk : ∀ (w : va_W) (H1 : Heap) (locs1 : List Loc), post w → va_P D cl w H1 → va_D (va_A ws0 sz0) w → va_S (va_A ws0 sz0) s.heap H1 locs1 → W p l e R s m args below meth c H1 locs1 (cells + mc1) (slots + ms1) (vx_MQ below Qd (gX D cl tys ws0 sz0 xp) args s mc ms (va_A ws0 sz0)) (F0 m (pc + 3) ls rest)) :
    W p l e R s m args below meth c H locs cells slots (vx_MQ below Qd (gX D cl tys ws0 sz0 xp) args s mc ms (va_A ws0 sz0)) (F0 m pc ls st0) := by
  have hF := gw_fr hD hS hA
  refine vx_callv hr hS (fun q _ h => hF q h) hF (fun q _ h => hF q h) (fun E ce q9 u t H1 locs1 ht _ _ hB _ _ hS1 hce hcv hcl => gx_thru hK hF hno hlocks hc hs hxp ht hB hS1 hce hcv hcl) (fun u t H1 locs1 ht _ hw hB _ _ hS1 => ?_)
  obtain ⟨hP1, _, hD1⟩ := hB
  rw [ht] at hP1
  exact kk u H1 locs1 hw hP1 (hD1.weaken (fun _ _ _ h => hF _ h)) hS1
theorem gx_ci {post : Int32 → va_W → Prop} (hr : vx_Run p l e R s m args below meth c H locs cells slots mc1 ms1 (F0 m pc ls st0) rest (va_Qi post (gw_B D cl tys ws H.size) (va_A ws H.size) a) (gX D cl tys ws H.size xq) (va_A ws H.size)) (hK : va_K D cl tys s) (hD : va_D (va_A ws0 sz0) ws) (hS : va_S (va_A ws0 sz0) s.heap H locs) (hA : ∀ q, s.heap.size ≤ q → va_A ws0 sz0 q) (hno : ∀ (x : ExceptionTableEntry), x ∈ c.exceptionTable.toList → False) (hlocks : meth.locks = false) (hc : cells + mc1 ≤ mc) (hs : slots + ms1 ≤ ms) (hxp : ∀ E w, xq E w → xp E w)
    (kk : ∀ (r : Int32) (w : va_W) (H1 : Heap) (locs1 : List Loc), post r w → va_P D cl w H1 → va_D (va_A ws0 sz0) w → va_S (va_A ws0 sz0) s.heap H1 locs1 → W p l e R s m args below meth c H1 locs1 (cells + mc1) (slots + ms1) (vx_MQ below Qd (gX D cl tys ws0 sz0 xp) args s mc ms (va_A ws0 sz0)) (F0 m (pc + 3) ls (.int r :: rest))) :
    W p l e R s m args below meth c H locs cells slots (vx_MQ below Qd (gX D cl tys ws0 sz0 xp) args s mc ms (va_A ws0 sz0)) (F0 m pc ls st0) := by
  have hF := gw_fr hD hS hA
  refine vx_calli hr hS (fun q _ h => hF q h) hF (fun q _ h => hF q h) (fun E ce q9 u t H1 locs1 ht _ _ hB _ _ hS1 hce hcv hcl => gx_thru hK hF hno hlocks hc hs hxp ht hB hS1 hce hcv hcl) (fun r u t H1 locs1 ht _ hw hB _ _ hS1 => ?_)
  obtain ⟨hP1, _, hD1⟩ := hB
  rw [ht] at hP1
  exact kk r u H1 locs1 hw hP1 (hD1.weaken (fun _ _ _ h => hF _ h)) hS1
theorem gx_cv0 {P : Prop} (hr : vx_Run p l e R s m args below meth c H locs cells slots mc1 ms1 (F0 m pc ls st0) rest (va_Qv (fun w => P ∧ w = ws) (gw_B D cl tys ws H.size) (va_A ws H.size) a) (gX D cl tys ws H.size xq) (va_A ws H.size)) (hK : va_K D cl tys s) (hD : va_D (va_A ws0 sz0) ws) (hS : va_S (va_A ws0 sz0) s.heap H locs) (hA : ∀ q, s.heap.size ≤ q → va_A ws0 sz0 q) (hno : ∀ (x : ExceptionTableEntry), x ∈ c.exceptionTable.toList → False) (hlocks : meth.locks = false) (hc : cells + mc1 ≤ mc) (hs : slots + ms1 ≤ ms) (hxp : ∀ E w, xq E w → xp E w)
    (kk : ∀ (H1 : Heap) (locs1 : List Loc), P → va_P D cl ws H1 → va_D (va_A ws0 sz0) ws → va_S (va_A ws0 sz0) s.heap H1 locs1 → W p l e R s m args below meth c H1 locs1 (cells + mc1) (slots + ms1) (vx_MQ below Qd (gX D cl tys ws0 sz0 xp) args s mc ms (va_A ws0 sz0)) (F0 m (pc + 3) ls rest)) :
    W p l e R s m args below meth c H locs cells slots (vx_MQ below Qd (gX D cl tys ws0 sz0 xp) args s mc ms (va_A ws0 sz0)) (F0 m pc ls st0) :=
  gx_cv hr hK hD hS hA hno hlocks hc hs hxp (fun w H1 locs1 hw h1 h2 h3 => by obtain ⟨hp, rfl⟩ := hw; exact kk H1 locs1 hp h1 h2 h3)
/-- 'throw new E("..")' -/
theorem gx_throw (hx : p.tables.exec = Jvm.exec) (hb : c.code = cc) (hl : l.stackTraces = false) {cls text : String} {ik is ic k : Nat} (hF : CallFix p m c cc nL s args Ts R_X) (hT : ∀ w ∈ wG, w ∈ Ts)
    (hcls : Bundle.fit cls = true) (hk : Cond.classLink R_X ik cls ∈ wG) (hini : Cond.initialized cls ∈ wG) (hstr : xStr[k]? = some (is, text))
    (hat : ∀ w ∈ (vx_atS R_X ic cls ["java/lang/RuntimeException", "java/lang/Exception"]).filter goodWord, w ∈ wG) (hbad : ∀ w ∈ (vx_atS R_X ic cls ["java/lang/RuntimeException", "java/lang/Exception"]).filter (fun w => !goodWord w), w ∈ wN) (hbT : ∀ w ∈ (vx_atS R_X ic cls ["java/lang/RuntimeException", "java/lang/Exception"]).filter (fun w => !goodWord w), w.onTables = true)
    (hgood : ∀ w ∈ Cond.classLink R_X ik cls :: Cond.initialized cls :: vx_atS R_X ic cls ["java/lang/RuntimeException", "java/lang/Exception"], vx_ot w = true)
    (hK : va_K D cl tys s) (hN : gN s) (hP : va_P D cl ws H) (hD : va_D (va_A ws0 sz0) ws) (hS : va_S (va_A ws0 sz0) s.heap H locs) (hB : ∀ q, va_A ws0 sz0 q → base ≤ q) (hE : gE base s s.heap) (hno : ∀ (x : ExceptionTableEntry), x ∈ c.exceptionTable.toList → False) (hlocks : meth.locks = false) (hsize : ls.size = nL)
    (d0 : decode cc pc = .ok (.new ik, 3)) (d3 : decode cc (pc + 3) = .ok (.dup, 1)) (d4 : decode cc (pc + 4) = .ok (.ldc is, 2)) (d6 : decode cc (pc + 6) = .ok (.invokespecial ic, 3)) (d9 : decode cc (pc + 9) = .ok (.athrow, 1))
    (hR1 : 5 < R.frames) (hR2 : (rest.map fun v => v.category).sum + 82 ≤ R.locals) (hR3 : cells + 1 ≤ R.cells) (hR4 : slots + 6 ≤ R.slots) (hc : cells + 1 ≤ mc) (hs : slots + 6 ≤ ms) (hxp : xp cls ws) :
    W p l e R s m args below meth c H locs cells slots (vx_MQ below Qd (gX D cl tys ws0 sz0 xp) args s mc ms (va_A ws0 sz0)) (F0 m pc ls rest) := by
  obtain ⟨sa, hsa⟩ := hE.str k hstr
  have hat' : ∀ w ∈ vx_atS R_X ic cls ["java/lang/RuntimeException", "java/lang/Exception"], w.before args s = true := fun w hw => by
    by_cases hg : goodWord w = true
    · exact hF.2.2.2.2 _ (hT _ (hat w (List.mem_filter.mpr ⟨hw, hg⟩)))
    · have hm : w ∈ (vx_atS R_X ic cls ["java/lang/RuntimeException", "java/lang/Exception"]).filter (fun w => !goodWord w) := List.mem_filter.mpr ⟨hw, by simpa using hg⟩
      exact va_Nw.use (hbT w hm) (hN w (hbad w hm))
  refine vx_throwS (names := ["java/lang/RuntimeException", "java/lang/Exception"]) hx hb hl hF.2.2.2.1 hcls (by decide) (hF.2.2.2.2 _ (hT _ hk)) (hF.2.2.2.2 _ (hT _ hini)) hsa hat' hgood (hE.2.1.narrow hB) (hE.2.2.narrow hB) hS (hsize.trans hF.2.2.1.symm) d0 d3 d4 d6 d9 (fun x h => (hno x h).elim) hR1 hR2 hR3 hR4 hlocks (fun t ha h1 h2 => ?_) hS.2.2 hc hs
  exact ⟨ws, trivial, ⟨hxp, hP.kept (fun k q hk => h2 q.1 ((hP k q hk).lt)), va_K.moved ha hK, hD⟩, Nat.le_trans hS.1 h1, fun q h3 h4 => (h2 q (Nat.lt_of_lt_of_le h3 hS.1)).trans (hS.2.1 q h3 h4)⟩
end XC
