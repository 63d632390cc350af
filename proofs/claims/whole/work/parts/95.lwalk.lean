/-! the law's own rows -/
section LW
variable {p : Program} {l : Launch} {e : Env} {R : Room} {s : State} {m : MethodId} {args : Array Value} {below : List Frame} {meth : Method} {c : Code} {H : Heap} {locs : List Loc} {cells slots : Nat} {Q : State → Prop}
variable {D : va_G} {cl : List vw_C} {tys : List (ClassId × FieldType)} {ws : va_W} {base mc ms pc nL maxL index n : Nat} {ls : Array Slot} {rest st0 As : List Value} {cc bytes : ByteArray} {Ts : List Cond} {own : String} {y : MethodName} {ret : Option FieldType} {rm : Room} {Qc : Array Value → State → Outcome → State → Prop} {free : Addr → Prop} {hh : List (Nat × Nat × Nat × Nat)}
theorem gh_rS (S : CallFix p m c cc nL s args Ts own) (hT : ∀ w ∈ wG, w ∈ Ts) (hM : Met l y (Cond.codeWith y bytes maxL ret hh :: wG) rm (gh_Pc D cl tys As ws H.size base) Qc mc ms free)
    (h1 : Cond.methodLink own index y ∈ wG) (h2 : Cond.static y ∈ wG) (h4 : Cond.initialized y.cls ∈ wG) (h5 : Cond.codeWith y bytes maxL ret hh ∈ wG)
    (hd : y.cls ≠ "java/lang/invoke/MethodHandle" ∧ y.cls ≠ "java/lang/invoke/VarHandle" ∧ (parseMethodDescriptor y.desc).map (fun d => d.parameters.length) = some n) (hR : rm.frames + 1 ≤ R.frames ∧ 8 + (maxL + 11) + rm.locals ≤ R.locals) (hrc : rm.cells = mc) (hrs : rm.slots = ms)
    (hpre : ∀ U : State, U.heap = H → s.WarmedH U.vm → gh_Pc D cl tys As ws H.size base As.toArray U)
    (hn : As.length = n) (hsize : ls.size = nL) (hstack : st0 = As.reverse ++ rest) (hW : (rest.map fun v => v.category).sum ≤ 8) (hdg : decode cc pc = .ok (.invokestatic index, 3)) (hf : cells + mc ≤ R.cells ∧ slots + ms ≤ R.slots) :
    va_Run p l e R s m args below meth c H locs cells slots mc ms (F0 m pc ls st0) rest (Qc As.toArray) free := by
  have hG : GoodIn Ts (va_wsS own index y (Cond.codeWith y bytes maxL ret hh :: wG)) := gd_good hT (fun w hw => by
    unfold va_wsS at hw
    rcases List.mem_append.mp hw with h | h
    · simp only [List.mem_cons, List.not_mem_nil, or_false] at h
      rcases h with rfl | rfl | rfl
      · exact h1
      · exact h2
      · exact h4
    · exact gd_c h5 w h)
  exact vx_runSW S hM (vx_cwSW n S.2.2.2.2 hG rfl hrc hrs hd hR) ⟨gh_blind, hpre⟩ rfl hn hsize hstack (lv_room hW) hdg hf
theorem gl_ld (hx : p.tables.exec = Jvm.exec) (hb : c.code = cc) {b L j : Nat} {xs : Nat → Int32} {A : Nat → Prop} (hX : va_X b L xs s s.heap) (hbl : b < s.heap.size) (hbA : ¬ A b) (hS : va_S A s.heap H locs) (hj : j < L) (hL : L ≤ 3073) (hdg : decode cc pc = .ok (.iaload, 1))
    (kk : W p l e R s m args below meth c H locs cells slots Q (F0 m (pc + 1) ls (.int (xs j) :: rest))) : W p l e R s m args below meth c H locs cells slots Q (F0 m pc ls (.int (nI j) :: .ref b :: rest)) := by
  refine va_sld hx hb hX hbl hbA hS (vp_in_nI hj (by omega)) hdg ?_
  rw [nI_clamp (by omega)]
  exact kk
end LW
theorem iv_join_nf {N k2 k3 : Nat} {K B : Nat → Nat → Int64} {E Em : Nat → Int32} {R : Nat → Int64} {Km Bm K1 B1 : Nat → Int64} {E1 : Int32} (hN : N ≤ 5) (h : iv_A N K B E R Em) (hk2 : k2 < 8) (hk3 : k3 < 8) (ha : lr_joinO Km Bm (2 * N) (K k2) (B k2) (E k2) (K k3) (B k3) (E k3) K1 B1 E1) (he : E1 = 0) : ¬ lr_tooFar B1 (2 * N) := by
  have like : ∀ k0, k0 < 8 → E k0 = 0 → ¬ lr_tooFar (lr_copy (B k0) Bm (2 * N * (2 * N))) (2 * N) := fun k0 hk0 e w => by
    obtain ⟨i, n⟩ := (h k0 hk0).1.st e
    have := (iv_far (B := lr_copy (B k0) Bm (2 * N * (2 * N))) (M := 2000000000000000) (by rw [lz_T_copy]; exact i.1) (by rw [lz_T_copy]; exact lz_nf_B n lz_T_gd) (by omega)).2.mp w
    rw [lz_T_copy] at this; exact this n
  rcases ha with ⟨e2, K0, ⟨_, rfl, rfl⟩, _⟩ | ⟨e2, e3, K0, ⟨_, rfl, rfl⟩, _⟩ | ⟨e2, e3, rfl, rfl, _⟩
  · exact like k3 hk3 he
  · exact like k2 hk2 he
  · obtain ⟨i2, n2⟩ := (h k2 hk2).1.st e2
    obtain ⟨i3, n3⟩ := (h k3 hk3).1.st e3
    have eG : lz_T (2 * N) (lr_symO (lr_gJ (B k2) (B k3) (2 * N)) (2 * N) (2 * N) (lr_allB Bm (2 * N))) = fun i j => lr_mx (lz_T (2 * N) (B k2) i j) (lz_T (2 * N) (B k3) i j) := by
      rw [lz_T_sym (fun i hi j hj => by unfold lr_gJ; rw [lz_T_sv i2.1.1 hi hj, lz_T_sv i3.1.1 hi hj])]
      funext i j
      by_cases q : i < 2 * N ∧ j < 2 * N
      · rw [lz_X_in q.1 q.2, lz_T_in q.1 q.2, lz_T_in q.1 q.2]
        exact (lz_max (lz_nf_v n2 q.1 q.2) (lz_nf_v n3 q.1 q.2) (by omega)).1
      · rw [lz_X_out q, lz_T_out q, lz_T_out q]; rfl
    have hC : lr_Cl N (lz_T (2 * N) (lr_symO (lr_gJ (B k2) (B k3) (2 * N)) (2 * N) (2 * N) (lr_allB Bm (2 * N)))) := by rw [eG]; exact lr_mx_cl i2.1 i3.1
    have hn : lz_nf (2 * N) (lz_T (2 * N) (lr_symO (lr_gJ (B k2) (B k3) (2 * N)) (2 * N) (2 * N) (lr_allB Bm (2 * N)))) := by
      rw [eG]; exact fun i hi j hj => lr_mx_b (n2 i hi j hj) (n3 i hi j hj)
    exact fun w => (iv_far hC (lz_nf_B hn lz_T_gd) (by omega)).2.mp w hn
theorem iv_forget_nf {N k k1 : Nat} {K B : Nat → Nat → Int64} {E Em : Nat → Int32} {R : Nat → Int64} {Km Bm K1 B1 : Nat → Int64} {E1 : Int32} (hN : N ≤ 5) (h : iv_A N K B E R Em) (hk : k < 8) (h1 : 1 ≤ k1) (hk1 : k1 ≤ N) (ha : lr_freeO Km Bm (2 * N) (K k) (B k) (E k) (nI k1) K1 B1 E1) (he : E1 = 0) : ¬ lr_tooFar B1 (2 * N) := by
  rcases ha with ⟨e, _, _, rfl⟩ | ⟨e, rfl, rfl, _⟩
  · exact absurd he e
  · obtain ⟨i2, n2⟩ := (h k hk).1.st he
    have hC := lz_free_cl (k1 := k1) i2.1
    have eB : lz_T (2 * N) (lr_opps (lr_free (lr_copy (B k) Bm (2 * N * (2 * N))) (2 * N) (nI k1) (2 * N)) (2 * N) 0) = lz_O (2 * N) (some 0) (lz_dr k1 (lz_T (2 * N) (B k))) := by
      rw [lz_opps (by omega), lz_free h1 (by omega) (by omega), lz_T_copy, lz_v0]
    have hn : lz_nf (2 * N) (lz_O (2 * N) (some 0) (lz_dr k1 (lz_T (2 * N) (B k)))) := fun i hi j hj => by
      have h0 : lz_b 0 (some (0 : Int)) := lz_b_s.mpr (by omega)
      have pos : (0 : Int) ≤ (if i = j then 2000000000000000 else 1000000000000000) := by split <;> omega
      unfold lz_O
      by_cases w : i < 2 * N ∧ j = lr_op i
      · rw [if_pos w]; exact lz_b_w h0 pos
      · rw [if_neg w]
        by_cases w2 : i / 2 = k1 - 1 ∨ j / 2 = k1 - 1
        · rw [lz_dr_y w2]; exact lz_b_n
        · rw [lz_dr_n w2]; exact n2 i hi j hj
    rw [← eB] at hC hn
    exact fun w => (iv_far hC (lz_nf_B hn lz_T_gd) (by omega)).2.mp w hn
