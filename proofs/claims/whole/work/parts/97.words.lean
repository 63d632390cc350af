/-! what the Statement's words give at the law's entry; written by program -/
theorem wn_0 : Cond.fieldLinkNest "LinearRows" 89 "LinearRows$Shape" "keptRows" "LLinearRows$Table;" "LinearRows" ∈ tables_1 := List.mem_append_left _ (List.mem_of_getElem? (i := 59) rfl)
theorem wn_1 : Cond.fieldLinkNest "LinearRows" 127 "LinearRows$Shape" "bounds" "LLinearRows$Table;" "LinearRows" ∈ tables_1 := List.mem_append_left _ (List.mem_of_getElem? (i := 61) rfl)
theorem wn_2 : Cond.fieldLinkNest "LinearRows" 123 "LinearRows$Shape" "empty" "Z" "LinearRows" ∈ tables_1 := List.mem_append_left _ (List.mem_of_getElem? (i := 63) rfl)
theorem wn_3 : Cond.castable "java/lang/IndexOutOfBoundsException" "java/lang/IndexOutOfBoundsException" ∈ tables_1 := List.mem_append_left _ (List.mem_of_getElem? (i := 119) rfl)
theorem wn_4 : Cond.declares ⟨"java/lang/RuntimeException", "<init>", "()V"⟩ ∈ tables_1 := List.mem_append_left _ (List.mem_of_getElem? (i := 120) rfl)
theorem wn_5 : Cond.declares ⟨"java/lang/RuntimeException", "<init>", "(Ljava/lang/String;)V"⟩ ∈ tables_1 := List.mem_append_left _ (List.mem_of_getElem? (i := 121) rfl)
theorem wn_6 : Cond.declares ⟨"java/lang/Exception", "<init>", "()V"⟩ ∈ tables_1 := List.mem_append_left _ (List.mem_of_getElem? (i := 122) rfl)
theorem wn_7 : Cond.declares ⟨"java/lang/Exception", "<init>", "(Ljava/lang/String;)V"⟩ ∈ tables_1 := List.mem_append_left _ (List.mem_of_getElem? (i := 123) rfl)
theorem wn_8 : Cond.declares ⟨"java/lang/Throwable", "<init>", "()V"⟩ ∈ tables_1 := List.mem_append_left _ (List.mem_of_getElem? (i := 124) rfl)
theorem wn_9 : Cond.declares ⟨"java/lang/Throwable", "<init>", "(Ljava/lang/String;)V"⟩ ∈ tables_1 := List.mem_append_left _ (List.mem_of_getElem? (i := 125) rfl)
theorem wn_10 : Cond.castable "java/lang/IllegalArgumentException" "java/lang/IllegalArgumentException" ∈ tables_1 := List.mem_append_left _ (List.mem_of_getElem? (i := 214) rfl)
theorem wn_11 : Cond.methodLinkNest "LinearRows$Shape" 54 y_X_placeOf "LinearRows" ∈ tables_1 := List.mem_append_right _ (List.mem_append_left _ (List.mem_of_getElem? (i := 9) rfl))
theorem wn_12 : Cond.methodLinkNest "LinearRows$Table" 88 y_X_plus "LinearRows" ∈ tables_1 := List.mem_append_right _ (List.mem_append_left _ (List.mem_of_getElem? (i := 58) rfl))
theorem wn_13 : Cond.castable "java/lang/ArithmeticException" "java/lang/ArithmeticException" ∈ tables_1 := List.mem_append_right _ (List.mem_append_left _ (List.mem_of_getElem? (i := 83) rfl))
theorem wn_14 : Cond.methodLinkNest "LinearRows$Table" 33 y_X_placeOf "LinearRows" ∈ tables_1 := List.mem_append_right _ (List.mem_append_left _ (List.mem_of_getElem? (i := 113) rfl))
theorem wn_15 : Cond.methodLinkNest "LinearRows$Shape" 108 y_X_termAt "LinearRows" ∈ tables_1 := List.mem_append_right _ (List.mem_append_left _ (List.mem_of_getElem? (i := 207) rfl))
theorem wn_16 : Cond.methodLinkNest "LinearRows$Shape" 105 y_X_plus "LinearRows" ∈ tables_1 := List.mem_append_right _ (List.mem_append_left _ (List.mem_of_getElem? (i := 214) rfl))
theorem wk_0 : Cond.stringRef "LinearRows" 196 "no such shape" ∈ tables_1 := List.mem_append_left _ (List.mem_of_getElem? (i := 158) rfl)
theorem wk_1 : Cond.stringRef "LinearRows" 200 "no such term" ∈ tables_1 := List.mem_append_left _ (List.mem_of_getElem? (i := 206) rfl)
theorem wk_2 : Cond.stringRef "LinearRows" 206 "the number is not -1000000000 to 1000000000" ∈ tables_1 := List.mem_append_left _ (List.mem_of_getElem? (i := 221) rfl)
theorem wk_3 : Cond.stringRef "LinearRows" 213 "a bound is beyond 10^15" ∈ tables_1 := List.mem_append_right _ (List.mem_append_left _ (List.mem_of_getElem? (i := 90) rfl))
theorem wk_4 : Cond.stringRef "LinearRows" 198 "no such name" ∈ tables_1 := List.mem_append_right _ (List.mem_append_left _ (List.mem_of_getElem? (i := 199) rfl))
theorem wk_5 : Cond.stringRef "LinearRows" 165 "no such needed row, or no such part of it" ∈ tables_1 := List.mem_append_right _ (List.mem_append_right _ (List.mem_append_left _ (List.mem_of_getElem? (i := 84) rfl)))
theorem wk_6 : Cond.stringRef "LinearRows" 172 "bits is not 1 to 62" ∈ tables_1 := List.mem_append_right _ (List.mem_append_right _ (List.mem_append_left _ (List.mem_of_getElem? (i := 92) rfl)))
theorem wk_7 : Cond.stringRef "LinearRows" 175 "index and length are the same name" ∈ tables_1 := List.mem_append_right _ (List.mem_append_right _ (List.mem_append_left _ (List.mem_of_getElem? (i := 100) rfl)))
theorem wk_8 : Cond.stringRef "LinearRows" 187 "what is not 0 to 9" ∈ tables_1 := List.mem_append_right _ (List.mem_append_right _ (List.mem_append_left _ (List.mem_of_getElem? (i := 109) rfl)))
theorem wk_o : Cond.arrayOver (.object "LinearRows$Shape") ∈ tables_1 := List.mem_append_left _ (List.mem_of_getElem? (i := 29) rfl)
theorem wk_u : Cond.laysStatic "java/lang/Throwable" "UNASSIGNED_STACK" "[Ljava/lang/StackTraceElement;" ∈ tables_1 := List.mem_append_left _ (List.mem_of_getElem? (i := 144) rfl)
theorem wk_v : Cond.laysStatic "java/lang/Throwable" "SUPPRESSED_SENTINEL" "Ljava/util/List;" ∈ tables_1 := List.mem_append_left _ (List.mem_of_getElem? (i := 146) rfl)
theorem wk_t : Cond.initialized "java/lang/Throwable" ∈ tables_1 := List.mem_append_left _ (List.mem_of_getElem? (i := 7) rfl)
theorem lw_gN {a : Array Value} {s : State} (h : ∀ w ∈ tables_1, w.before a s = true) : gN s := by
  intro w hw
  simp only [wN, List.mem_cons, List.not_mem_nil, or_false] at hw
  rcases hw with rfl | rfl | rfl | rfl | rfl | rfl | rfl | rfl | rfl | rfl | rfl | rfl | rfl | rfl | rfl | rfl | rfl
  · exact va_Nw.of rfl (h _ wn_0)
  · exact va_Nw.of rfl (h _ wn_1)
  · exact va_Nw.of rfl (h _ wn_2)
  · exact va_Nw.of rfl (h _ wn_3)
  · exact va_Nw.of rfl (h _ wn_4)
  · exact va_Nw.of rfl (h _ wn_5)
  · exact va_Nw.of rfl (h _ wn_6)
  · exact va_Nw.of rfl (h _ wn_7)
  · exact va_Nw.of rfl (h _ wn_8)
  · exact va_Nw.of rfl (h _ wn_9)
  · exact va_Nw.of rfl (h _ wn_10)
  · exact va_Nw.of rfl (h _ wn_11)
  · exact va_Nw.of rfl (h _ wn_12)
  · exact va_Nw.of rfl (h _ wn_13)
  · exact va_Nw.of rfl (h _ wn_14)
  · exact va_Nw.of rfl (h _ wn_15)
  · exact va_Nw.of rfl (h _ wn_16)
theorem lw_str {a : Array Value} {s : State} {k : Nat} {t : String} (h : (Cond.stringRef "LinearRows" k t).before a s = true) (h2 : (Cond.exactly (.string "LinearRows" k) "java/lang/String").before a s = true) : ∃ q, vk_R "LinearRows" k t q s := by
  obtain ⟨q, c, cA, kA, q1, -⟩ := Cond.exactly_spec (args := a) (first := s) (o := none) (s := s) (idx := []) (t := .string "LinearRows" k) (cls := "java/lang/String") h2
  exact ⟨q, vk_R.of h q1⟩
theorem lw_gE {a : Array Value} {s : State} (h : ∀ w ∈ tables_1, w.before a s = true) (hg : (Jvm.Cond.and given_1 narrow_1).before a s = true) : gE s.heap.size s s.heap := by
  have hs := flat_of_before _ hg
  refine ⟨fun q hq => ?_, ?_, ?_⟩
  · simp only [xStr, List.mem_cons, List.not_mem_nil, or_false] at hq
    rcases hq with rfl | rfl | rfl | rfl | rfl | rfl | rfl | rfl | rfl
    · exact lw_str (h _ wk_0) (hs _ (by decide +kernel))
    · exact lw_str (h _ wk_1) (hs _ (by decide +kernel))
    · exact lw_str (h _ wk_2) (hs _ (by decide +kernel))
    · exact lw_str (h _ wk_3) (hs _ (by decide +kernel))
    · exact lw_str (h _ wk_4) (hs _ (by decide +kernel))
    · exact lw_str (h _ wk_5) (hs _ (by decide +kernel))
    · exact lw_str (h _ wk_6) (hs _ (by decide +kernel))
    · exact lw_str (h _ wk_7) (hs _ (by decide +kernel))
    · exact lw_str (h _ wk_8) (hs _ (by decide +kernel))
  · exact vx_Zqof (h _ wk_u) (h _ wk_t) (hs _ (by decide +kernel)) (fun a h => Nat.not_le.mpr h)
  · exact vx_Zqof (h _ wk_v) (h _ wk_t) (hs _ (by decide +kernel)) (fun a h => Nat.not_le.mpr h)
theorem lw_gC {a : Array Value} {s : State} (hg : (Jvm.Cond.and given_1 narrow_1).before a s = true) : gC s := by
  have hs := flat_of_before _ hg
  exact ⟨va_Nc.of (hs _ (by decide +kernel)), va_Nc.of (hs _ (by decide +kernel)), va_Nc.of (hs _ (by decide +kernel))⟩
theorem lw_arr {a : Array Value} {s : State} {ty : FieldType} (h : (Cond.arrayClass ty).before a s = true) : ∃ cA, ArrOfT s cA ty ∧ s.vm.findClass ("[" ++ ty.toString) = some cA := by
  obtain ⟨c, k, comp, h1, h2, h3⟩ := Cond.arrayClass_spec h
  exact ⟨c, fun n z => ⟨fun k h => (by cases h), k, h2, comp, h3⟩, h1⟩
theorem lw_K {a : Array Value} {s : State} (h : ∀ w ∈ lw_tbl, w.before a s = true) : ∃ (D : va_G) (cJ cI cZ cS : ClassId), va_K D classes (gT cJ cI cZ cS) s := by
  have hT : ∀ w ∈ wG, w ∈ lw_tbl := fun w h => (List.mem_filter.mp h).1
  obtain ⟨c0, i0, k0⟩ := u_known (C := R_T) (T := F_T) (N := 2) (n := 2) h (fun w q => hT w (wu_T w q)) (h _ (hT _ wm_1_36))
  obtain ⟨c1, i1, k1⟩ := u_known (C := R_S) (T := F_S) (N := 4) (n := 4) h (fun w q => hT w (wu_S w q)) (h _ (hT _ wm_1_30))
  obtain ⟨c2, i2, k2⟩ := u_known (C := R_X) (T := F_X) (N := 9) (n := 9) h (fun w q => hT w (wu_X w q)) (h _ (hT _ wm_1_15))
  obtain ⟨c3, i3, k3⟩ := u_known (C := R_M) (T := F_M) (N := 13) (n := 13) h (fun w q => hT w (wu_M w q)) (h _ (hT _ wm_3_119))
  obtain ⟨cJ, j1, j2⟩ := lw_arr (h _ (hT _ wm_1_52))
  obtain ⟨cI, l1, l2⟩ := lw_arr (h _ (hT _ wm_3_166))
  obtain ⟨cZ, n1, n2⟩ := lw_arr (h _ (hT _ wm_3_165))
  obtain ⟨comp, cS, kS, f1, f2, f3, f4, f5⟩ := Cond.arrayOver_spec (h _ (List.mem_append_right _ wk_o))
  refine ⟨(fun k => if k = 0 then c0 else if k = 1 then c1 else if k = 2 then c2 else c3, fun k => if k = 0 then i0 else if k = 1 then i1 else if k = 2 then i2 else i3), cJ, cI, cZ, cS, ?_, ?_⟩
  · intro k q hq
    match k, hq with
    | 0, hq => cases hq; exact k0
    | 1, hq => cases hq; exact k1
    | 2, hq => cases hq; exact k2
    | 3, hq => cases hq; exact k3
    | k + 4, hq => simp [classes] at hq
  · intro k q hq
    match k, hq with
    | 0, hq => cases hq; exact ⟨j1, j2⟩
    | 1, hq => cases hq; exact ⟨l1, l2⟩
    | 2, hq => cases hq; exact ⟨n1, n2⟩
    | 3, hq => cases hq; exact ⟨fun N z => ⟨(fun k h => by cases h), kS, f3, comp, f4⟩, kS, comp, f3, f4, f1, f5⟩
    | k + 4, hq => simp [gT] at hq
