/-! WORLDS AS LISTS WITH NAMED PLACES: a method is given its caller's whole world ws and the places of its cells; its end says what the list is then. -/
theorem gw_eq {α : Type} {ws : List α} {p : Nat} {x y : α} (h : ws[p]? = some x) : (ws.set p y)[p]? = some y := by
  have := (List.getElem?_eq_some_iff.mp h).1
  simp [List.getElem?_set, this]
theorem gw_ne {α : Type} {ws : List α} {p q : Nat} {x y : α} (h : ws[p]? = some x) (hn : q ≠ p) : (ws.set q y)[p]? = some x := by
  simp [List.getElem?_set, hn, h]
theorem gw_neE {α : Type} {ws : List α} {p q : Nat} {y : α} (hn : q ≠ p) : (ws.set q y)[p]? = ws[p]? := by
  simp [List.getElem?_set, hn]
theorem gw_ap {α : Type} {ws l : List α} {p : Nat} {x : α} (h : ws[p]? = some x) : (ws ++ l)[p]? = some x := by
  have := (List.getElem?_eq_some_iff.mp h).1
  rw [List.getElem?_append_left this]
  exact h
theorem gw_la {α : Type} {ws : List α} {x : α} {p : Nat} (h : ws.length = p) : (ws ++ [x])[p]? = some x := by
  subst h
  simp
theorem gw_ss {α : Type} {ws : List α} {p : Nat} {x y : α} : (ws.set p x).set p y = ws.set p y := by
  simp [List.set_set]
theorem gw_id {α : Type} {ws : List α} {p : Nat} {x : α} (h : ws[p]? = some x) : ws.set p x = ws := by
  apply List.ext_getElem?
  intro q
  by_cases hq : p = q
  · subst hq; rw [gw_eq h, h]
  · rw [gw_neE hq]
/-! words of the tables that are no good ones in the kit's sense, and hold on through calls all the same -/
def wN : List Cond := [Cond.fieldLinkNest "LinearRows" 89 "LinearRows$Shape" "keptRows" "LLinearRows$Table;" "LinearRows",
  Cond.fieldLinkNest "LinearRows" 127 "LinearRows$Shape" "bounds" "LLinearRows$Table;" "LinearRows",
  Cond.fieldLinkNest "LinearRows" 123 "LinearRows$Shape" "empty" "Z" "LinearRows",
  Cond.castable "java/lang/IndexOutOfBoundsException" "java/lang/IndexOutOfBoundsException",
  Cond.declares ⟨"java/lang/RuntimeException", "<init>", "()V"⟩,
  Cond.declares ⟨"java/lang/RuntimeException", "<init>", "(Ljava/lang/String;)V"⟩,
  Cond.declares ⟨"java/lang/Exception", "<init>", "()V"⟩,
  Cond.declares ⟨"java/lang/Exception", "<init>", "(Ljava/lang/String;)V"⟩,
  Cond.declares ⟨"java/lang/Throwable", "<init>", "()V"⟩,
  Cond.declares ⟨"java/lang/Throwable", "<init>", "(Ljava/lang/String;)V"⟩,
  Cond.castable "java/lang/IllegalArgumentException" "java/lang/IllegalArgumentException",
  Cond.methodLinkNest "LinearRows$Shape" 54 y_X_placeOf "LinearRows",
  Cond.methodLinkNest "LinearRows$Table" 88 y_X_plus "LinearRows",
  Cond.castable "java/lang/ArithmeticException" "java/lang/ArithmeticException",
  Cond.methodLinkNest "LinearRows$Table" 33 y_X_placeOf "LinearRows",
  Cond.methodLinkNest "LinearRows$Shape" 108 y_X_termAt "LinearRows",
  Cond.methodLinkNest "LinearRows$Shape" 105 y_X_plus "LinearRows"]
def gN (U : State) : Prop := ∀ w ∈ wN, va_Nw w U
theorem gN.warm {s U : State} (hW : s.WarmedH U.vm) (h : gN s) : gN U := by
  intro w hw
  have hs := h w hw
  simp only [wN, List.mem_cons, List.not_mem_nil, or_false] at hw
  rcases hw with rfl | rfl | rfl | rfl | rfl | rfl | rfl | rfl | rfl | rfl | rfl | rfl | rfl | rfl | rfl | rfl | rfl <;> first | exact va_Nw.warmM hW hs | exact va_Nw.warmF hW hs | exact va_Nw.warmD hW hs | exact va_Nw.warmC hW hs
theorem gN_0 {s : State} (h : gN s) : va_Nw (Cond.fieldLinkNest "LinearRows" 89 "LinearRows$Shape" "keptRows" "LLinearRows$Table;" "LinearRows") s := h _ (List.mem_of_getElem? (i := 0) rfl)
theorem gN_1 {s : State} (h : gN s) : va_Nw (Cond.fieldLinkNest "LinearRows" 127 "LinearRows$Shape" "bounds" "LLinearRows$Table;" "LinearRows") s := h _ (List.mem_of_getElem? (i := 1) rfl)
theorem gN_2 {s : State} (h : gN s) : va_Nw (Cond.fieldLinkNest "LinearRows" 123 "LinearRows$Shape" "empty" "Z" "LinearRows") s := h _ (List.mem_of_getElem? (i := 2) rfl)
theorem gN_3 {s : State} (h : gN s) : va_Nw (Cond.castable "java/lang/IndexOutOfBoundsException" "java/lang/IndexOutOfBoundsException") s := h _ (List.mem_of_getElem? (i := 3) rfl)
theorem gN_4 {s : State} (h : gN s) : va_Nw (Cond.declares ⟨"java/lang/RuntimeException", "<init>", "()V"⟩) s := h _ (List.mem_of_getElem? (i := 4) rfl)
theorem gN_5 {s : State} (h : gN s) : va_Nw (Cond.declares ⟨"java/lang/RuntimeException", "<init>", "(Ljava/lang/String;)V"⟩) s := h _ (List.mem_of_getElem? (i := 5) rfl)
theorem gN_6 {s : State} (h : gN s) : va_Nw (Cond.declares ⟨"java/lang/Exception", "<init>", "()V"⟩) s := h _ (List.mem_of_getElem? (i := 6) rfl)
theorem gN_7 {s : State} (h : gN s) : va_Nw (Cond.declares ⟨"java/lang/Exception", "<init>", "(Ljava/lang/String;)V"⟩) s := h _ (List.mem_of_getElem? (i := 7) rfl)
theorem gN_8 {s : State} (h : gN s) : va_Nw (Cond.declares ⟨"java/lang/Throwable", "<init>", "()V"⟩) s := h _ (List.mem_of_getElem? (i := 8) rfl)
theorem gN_9 {s : State} (h : gN s) : va_Nw (Cond.declares ⟨"java/lang/Throwable", "<init>", "(Ljava/lang/String;)V"⟩) s := h _ (List.mem_of_getElem? (i := 9) rfl)
theorem gN_10 {s : State} (h : gN s) : va_Nw (Cond.castable "java/lang/IllegalArgumentException" "java/lang/IllegalArgumentException") s := h _ (List.mem_of_getElem? (i := 10) rfl)
theorem gN_11 {s : State} (h : gN s) : va_Nw (Cond.methodLinkNest "LinearRows$Shape" 54 y_X_placeOf "LinearRows") s := h _ (List.mem_of_getElem? (i := 11) rfl)
theorem gN_12 {s : State} (h : gN s) : va_Nw (Cond.methodLinkNest "LinearRows$Table" 88 y_X_plus "LinearRows") s := h _ (List.mem_of_getElem? (i := 12) rfl)
theorem gN_13 {s : State} (h : gN s) : va_Nw (Cond.castable "java/lang/ArithmeticException" "java/lang/ArithmeticException") s := h _ (List.mem_of_getElem? (i := 13) rfl)
theorem gN_14 {s : State} (h : gN s) : va_Nw (Cond.methodLinkNest "LinearRows$Table" 33 y_X_placeOf "LinearRows") s := h _ (List.mem_of_getElem? (i := 14) rfl)
theorem gN_15 {s : State} (h : gN s) : va_Nw (Cond.methodLinkNest "LinearRows$Shape" 108 y_X_termAt "LinearRows") s := h _ (List.mem_of_getElem? (i := 15) rfl)
theorem gN_16 {s : State} (h : gN s) : va_Nw (Cond.methodLinkNest "LinearRows$Shape" 105 y_X_plus "LinearRows") s := h _ (List.mem_of_getElem? (i := 16) rfl)
abbrev gw_Pc (D : va_G) (cl : List vw_C) (tys : List (ClassId × FieldType)) (av : List Value) (ws : va_W) (sz : Nat) : Array Value → State → Prop := va_Pc av (fun U => U.heap.size = sz ∧ va_P D cl ws U.heap ∧ va_K D cl tys U ∧ va_D (fun _ => True) ws ∧ gN U)
abbrev gw_B (D : va_G) (cl : List vw_C) (tys : List (ClassId × FieldType)) (ws : va_W) (sz : Nat) : va_W → State → Prop := fun w t => va_P D cl w t.heap ∧ va_K D cl tys t ∧ va_D (va_A ws sz) w
abbrev gw_MI (l : Launch) (y : MethodName) (Wd : List Cond) (rm : Room) (D : va_G) (cl : List vw_C) (tys : List (ClassId × FieldType)) (av : List Value) (ws : va_W) (sz : Nat) (post : Int32 → va_W → Prop) (mc ms : Nat) : Prop := Met l y Wd rm (gw_Pc D cl tys av ws sz) (va_Qi post (gw_B D cl tys ws sz) (va_A ws sz)) mc ms (va_A ws sz)
abbrev gw_ML (l : Launch) (y : MethodName) (Wd : List Cond) (rm : Room) (D : va_G) (cl : List vw_C) (tys : List (ClassId × FieldType)) (av : List Value) (ws : va_W) (sz : Nat) (post : Int64 → va_W → Prop) (mc ms : Nat) : Prop := Met l y Wd rm (gw_Pc D cl tys av ws sz) (va_Ql post (gw_B D cl tys ws sz) (va_A ws sz)) mc ms (va_A ws sz)
abbrev gw_MV (l : Launch) (y : MethodName) (Wd : List Cond) (rm : Room) (D : va_G) (cl : List vw_C) (tys : List (ClassId × FieldType)) (av : List Value) (ws : va_W) (sz : Nat) (post : va_W → Prop) (mc ms : Nat) : Prop := Met l y Wd rm (gw_Pc D cl tys av ws sz) (va_Qv post (gw_B D cl tys ws sz) (va_A ws sz)) mc ms (va_A ws sz)
section GW
variable {p : Program} {l : Launch} {e : Env} {R : Room} {s : State} {m : MethodId} {args : Array Value} {below : List Frame} {meth : Method} {c : Code} {H : Heap} {locs : List Loc} {cells slots : Nat} {Q : State → Prop}
variable {D : va_G} {cl : List vw_C} {tys : List (ClassId × FieldType)} {A : Nat → Prop} {ws : va_W} {H0 : Heap} {mc ms : Nat} {a : Array Value} {pc : Nat} {ls : Array Slot} {rest st0 : List Value}
theorem gw_fr (hD : va_D A ws) (hS : va_S A H0 H locs) (hA : ∀ q, H0.size ≤ q → A q) : ∀ q, va_A ws H.size q → A q := fun q h => by
  rcases h with ⟨k, e, h⟩ | h
  · exact hD.2 k _ h
  · exact hA q (Nat.le_trans hS.1 h)
theorem gw_blind {av : List Value} {sz : Nat} : FrameBlind (gw_Pc D cl tys av ws sz) := fun a U g mk q => by
  obtain ⟨q0, q1, qP, qK, qD, qN⟩ := q
  exact ⟨q0, q1, qP, va_K.moved (u := U) (U := U.calling g mk a) (Vm.Alike.refl U.vm) qK, qD, gN.warm (s := U) (U := U.calling g mk a) (State.WarmedH.refl U) qN⟩
theorem gw_pre {av : List Value} (hK : va_K D cl tys s) (hN : gN s) (hP : va_P D cl ws H) (hD : va_D A ws) : ∀ U : State, U.heap = H → s.WarmedH U.vm → gw_Pc D cl tys av ws H.size av.toArray U := fun U hU hW =>
  ⟨rfl, by rw [hU], by rw [hU]; exact hP, va_K.moved hW.alike hK, hD.weaken (fun _ _ _ _ => trivial), gN.warm hW hN⟩
theorem gw_preS {av : List Value} (hK : va_K D cl tys s) (hN : gN s) (hP : va_P D cl ws H) (hD : va_D A ws) : PreS s H (gw_Pc D cl tys av ws H.size) av := ⟨gw_blind, gw_pre hK hN hP hD⟩
theorem gw_preV {b : Nat} {As : List Value} {ci q0 : Nat} {q : vw_C} {fs : List Value} (hK : va_K D cl tys s) (hN : gN s) (hP : va_P D cl ws H) (hD : va_D A ws) (hc : cl[ci]? = some q) (he : ws[q0]? = some (b, .inr (ci, fs))) : PreV s H q.1 b (gw_Pc D cl tys (.ref b :: As) ws H.size) As := ⟨gw_blind, va_recv hK hP hc he, gw_pre hK hN hP hD⟩
theorem gw_ci {post : Int32 → va_W → Prop} (hr : va_Run p l e R s m args below meth c H locs cells slots mc ms (F0 m pc ls st0) rest (va_Qi post (gw_B D cl tys ws H.size) (va_A ws H.size) a) (va_A ws H.size)) (hD : va_D A ws) (hS : va_S A H0 H locs) (hA : ∀ q, H0.size ≤ q → A q)
    (kk : ∀ (r : Int32) (w : va_W) (H1 : Heap) (locs1 : List Loc), post r w → va_P D cl w H1 → va_D A w → va_S A H0 H1 locs1 → W p l e R s m args below meth c H1 locs1 (cells + mc) (slots + ms) Q (F0 m (pc + 3) ls (.int r :: rest))) : W p l e R s m args below meth c H locs cells slots Q (F0 m pc ls st0) := by
  have hF := gw_fr hD hS hA
  refine va_calli hr hS (fun q _ h => hF q h) hF (fun r u t H1 locs1 ht _ hw hB _ _ hS1 => ?_)
  obtain ⟨hP1, _, hD1⟩ := hB
  rw [ht] at hP1
  exact kk r u H1 locs1 hw hP1 (hD1.weaken (fun _ _ _ h => hF _ h)) hS1
theorem gw_cl {post : Int64 → va_W → Prop} (hr : va_Run p l e R s m args below meth c H locs cells slots mc ms (F0 m pc ls st0) rest (va_Ql post (gw_B D cl tys ws H.size) (va_A ws H.size) a) (va_A ws H.size)) (hD : va_D A ws) (hS : va_S A H0 H locs) (hA : ∀ q, H0.size ≤ q → A q)
    (kk : ∀ (r : Int64) (w : va_W) (H1 : Heap) (locs1 : List Loc), post r w → va_P D cl w H1 → va_D A w → va_S A H0 H1 locs1 → W p l e R s m args below meth c H1 locs1 (cells + mc) (slots + ms) Q (F0 m (pc + 3) ls (.long r :: rest))) : W p l e R s m args below meth c H locs cells slots Q (F0 m pc ls st0) := by
  have hF := gw_fr hD hS hA
  refine va_calll hr hS (fun q _ h => hF q h) hF (fun r u t H1 locs1 ht _ hw hB _ _ hS1 => ?_)
  obtain ⟨hP1, _, hD1⟩ := hB
  rw [ht] at hP1
  exact kk r u H1 locs1 hw hP1 (hD1.weaken (fun _ _ _ h => hF _ h)) hS1
theorem gw_cv {post : va_W → Prop} (hr : va_Run p l e R s m args below meth c H locs cells slots mc ms (F0 m pc ls st0) rest (va_Qv post (gw_B D cl tys ws H.size) (va_A ws H.size) a) (va_A ws H.size)) (hD : va_D A ws) (hS : va_S A H0 H locs) (hA : ∀ q, H0.size ≤ q → A q)
    (kk : ∀ (w : va_W) (H1 : Heap) (locs1 : List Loc), post w → va_P D cl w H1 → va_D A w → va_S A H0 H1 locs1 → W p l e R s m args below meth c H1 locs1 (cells + mc) (slots + ms) Q (F0 m (pc + 3) ls rest)) : W p l e R s m args below meth c H locs cells slots Q (F0 m pc ls st0) := by
  have hF := gw_fr hD hS hA
  refine va_callv hr hS (fun q _ h => hF q h) hF (fun u t H1 locs1 ht _ hw hB _ _ hS1 => ?_)
  obtain ⟨hP1, _, hD1⟩ := hB
  rw [ht] at hP1
  exact kk u H1 locs1 hw hP1 (hD1.weaken (fun _ _ _ h => hF _ h)) hS1
end GW
theorem gw_same {D : va_G} {cl : List vw_C} {tys : List (ClassId × FieldType)} {s : State} {t : Nat} {cJ cA : ClassId} {ty : FieldType} (hK : va_K D cl tys s) (ht : tys[t]? = some (cJ, ty)) (h : va_K D cl (tys ++ [(cA, ty)]) s) : cA = cJ := by
  have h1 := (hK.2 t _ ht).2
  have h2 := (h.2 tys.length (cA, ty) (by simp)).2
  cases ty <;> first | exact Option.some.inj (h2.symm.trans h1) | (obtain ⟨_, _, _, _, _, e1⟩ := h1; obtain ⟨_, _, _, _, _, e2⟩ := h2; exact Option.some.inj (e2.symm.trans e1))
