section
/-- a private method of a class that the tables say can be made, by its rows of tables_1 -/
def lw_okq (q : MethodName × Nat) : Prop := (q.1.cls ≠ "java/lang/invoke/MethodHandle" ∧ q.1.cls ≠ "java/lang/invoke/VarHandle") ∧ Cond.instantiable q.1.cls q.2 ∈ tables_1 ∧ Cond.privateMethod q.1 ∈ tables_1 ∧ Cond.instanceMethod q.1 ∈ tables_1
theorem lw_p0 : lw_okq (⟨"java/lang/Throwable", "fillInStackTrace", "(I)Ljava/lang/Throwable;"⟩, 6) := ⟨⟨by decide +kernel, by decide +kernel⟩, List.mem_of_getElem? (i := 156) (by decide +kernel), List.mem_of_getElem? (i := 154) (by decide +kernel), List.mem_of_getElem? (i := 155) (by decide +kernel)⟩
theorem lw_p1 : lw_okq (⟨"LinearRows", "checkTerm", "(I)V"⟩, 9) := ⟨⟨by decide +kernel, by decide +kernel⟩, List.mem_of_getElem? (i := 15) (by decide +kernel), List.mem_of_getElem? (i := 203) (by decide +kernel), List.mem_of_getElem? (i := 204) (by decide +kernel)⟩
theorem lw_p2 : lw_okq (⟨"LinearRows$Shape", "closeKeptRows", "()V"⟩, 4) := ⟨⟨by decide +kernel, by decide +kernel⟩, List.mem_of_getElem? (i := 30) (by decide +kernel), List.mem_of_getElem? (i := 272) (by decide +kernel), List.mem_of_getElem? (i := 273) (by decide +kernel)⟩
theorem lw_p3 : lw_okq (⟨"LinearRows$Table", "chainThrough", "(I)V"⟩, 2) := ⟨⟨by decide +kernel, by decide +kernel⟩, List.mem_of_getElem? (i := 36) (by decide +kernel), List.mem_of_getElem? (i := 281) (by decide +kernel), List.mem_of_getElem? (i := 282) (by decide +kernel)⟩
theorem lw_p4 : lw_okq (⟨"LinearRows$Table", "hasOppositesBelowZero", "()Z"⟩, 2) := ⟨⟨by decide +kernel, by decide +kernel⟩, List.mem_of_getElem? (i := 36) (by decide +kernel), List.mem_of_getElem? (i := 285) (by decide +kernel), List.mem_of_getElem? (i := 286) (by decide +kernel)⟩
theorem lw_p5 : lw_okq (⟨"LinearRows$Table", "cutToEven", "()V"⟩, 2) := ⟨⟨by decide +kernel, by decide +kernel⟩, List.mem_of_getElem? (i := 36) (by decide +kernel), List.mem_of_getElem? (i := 289) (by decide +kernel), List.mem_of_getElem? (i := 290) (by decide +kernel)⟩
theorem lw_p6 : lw_okq (⟨"LinearRows$Table", "hasTwicesThatContradict", "()Z"⟩, 2) := ⟨⟨by decide +kernel, by decide +kernel⟩, List.mem_of_getElem? (i := 36) (by decide +kernel), List.mem_of_getElem? (i := 295) (by decide +kernel), List.mem_of_getElem? (i := 296) (by decide +kernel)⟩
theorem lw_p7 : lw_okq (⟨"LinearRows$Table", "addHalves", "()V"⟩, 2) := ⟨⟨by decide +kernel, by decide +kernel⟩, List.mem_of_getElem? (i := 36) (by decide +kernel), List.mem_of_getElem? (i := 303) (by decide +kernel), List.mem_of_getElem? (i := 304) (by decide +kernel)⟩
theorem lw_p8 : lw_okq (⟨"LinearRows", "takeMade", "(I)I"⟩, 9) := ⟨⟨by decide +kernel, by decide +kernel⟩, List.mem_of_getElem? (i := 15) (by decide +kernel), List.mem_of_getElem? (i := 312) (by decide +kernel), List.mem_of_getElem? (i := 313) (by decide +kernel)⟩
theorem lw_p9 : lw_okq (⟨"LinearRows$Shape", "keepBounds", "()V"⟩, 4) := ⟨⟨by decide +kernel, by decide +kernel⟩, List.mem_of_getElem? (i := 30) (by decide +kernel), List.mem_of_getElem? (i := 380) (by decide +kernel), List.mem_of_getElem? (i := 381) (by decide +kernel)⟩
theorem lw_p10 : lw_okq (⟨"LinearRows", "checkName", "(I)V"⟩, 9) := ⟨⟨by decide +kernel, by decide +kernel⟩, List.mem_of_getElem? (i := 15) (by decide +kernel), List.mem_of_getElem? (i := 436) (by decide +kernel), List.mem_of_getElem? (i := 437) (by decide +kernel)⟩
theorem lw_p11 : lw_okq (⟨"LinearRows", "numberAt", "(I)J"⟩, 9) := ⟨⟨by decide +kernel, by decide +kernel⟩, List.mem_of_getElem? (i := 15) (by decide +kernel), List.mem_of_getElem? (i := 499) (by decide +kernel), List.mem_of_getElem? (i := 500) (by decide +kernel)⟩
theorem lw_p12 : lw_okq (⟨"LinearRows", "sampleNumber", "(LLinearRows$Table;I)J"⟩, 9) := ⟨⟨by decide +kernel, by decide +kernel⟩, List.mem_of_getElem? (i := 15) (by decide +kernel), List.mem_of_getElem? (i := 511) (by decide +kernel), List.mem_of_getElem? (i := 512) (by decide +kernel)⟩
theorem lw_p13 : lw_okq (⟨"LinearRows", "greatestBeside", "(LLinearRows$Table;I)J"⟩, 9) := ⟨⟨by decide +kernel, by decide +kernel⟩, List.mem_of_getElem? (i := 15) (by decide +kernel), List.mem_of_getElem? (i := 516) (by decide +kernel), List.mem_of_getElem? (i := 517) (by decide +kernel)⟩
theorem lw_p14 : lw_okq (⟨"LinearRows", "tellRow", "(IIJ)V"⟩, 9) := ⟨⟨by decide +kernel, by decide +kernel⟩, List.mem_of_getElem? (i := 15) (by decide +kernel), List.mem_of_getElem? (i := 531) (by decide +kernel), List.mem_of_getElem? (i := 532) (by decide +kernel)⟩
theorem lw_p15 : lw_okq (⟨"LinearRows", "leaveOutPairs", "()V"⟩, 9) := ⟨⟨by decide +kernel, by decide +kernel⟩, List.mem_of_getElem? (i := 15) (by decide +kernel), List.mem_of_getElem? (i := 536) (by decide +kernel), List.mem_of_getElem? (i := 537) (by decide +kernel)⟩
def lw_privs_1 : List (MethodName × Nat) := [(⟨"java/lang/Throwable", "fillInStackTrace", "(I)Ljava/lang/Throwable;"⟩, 6), (⟨"LinearRows", "checkTerm", "(I)V"⟩, 9), (⟨"LinearRows$Shape", "closeKeptRows", "()V"⟩, 4), (⟨"LinearRows$Table", "chainThrough", "(I)V"⟩, 2), (⟨"LinearRows$Table", "hasOppositesBelowZero", "()Z"⟩, 2), (⟨"LinearRows$Table", "cutToEven", "()V"⟩, 2), (⟨"LinearRows$Table", "hasTwicesThatContradict", "()Z"⟩, 2), (⟨"LinearRows$Table", "addHalves", "()V"⟩, 2), (⟨"LinearRows", "takeMade", "(I)I"⟩, 9), (⟨"LinearRows$Shape", "keepBounds", "()V"⟩, 4), (⟨"LinearRows", "checkName", "(I)V"⟩, 9), (⟨"LinearRows", "numberAt", "(I)J"⟩, 9), (⟨"LinearRows", "sampleNumber", "(LLinearRows$Table;I)J"⟩, 9), (⟨"LinearRows", "greatestBeside", "(LLinearRows$Table;I)J"⟩, 9), (⟨"LinearRows", "tellRow", "(IIJ)V"⟩, 9), (⟨"LinearRows", "leaveOutPairs", "()V"⟩, 9)]
theorem lw_r1 : ∀ q ∈ lw_privs_1, lw_okq q := List.forall_mem_cons.mpr ⟨lw_p0, List.forall_mem_cons.mpr ⟨lw_p1, List.forall_mem_cons.mpr ⟨lw_p2, List.forall_mem_cons.mpr ⟨lw_p3, List.forall_mem_cons.mpr ⟨lw_p4, List.forall_mem_cons.mpr ⟨lw_p5, List.forall_mem_cons.mpr ⟨lw_p6, List.forall_mem_cons.mpr ⟨lw_p7, List.forall_mem_cons.mpr ⟨lw_p8, List.forall_mem_cons.mpr ⟨lw_p9, List.forall_mem_cons.mpr ⟨lw_p10, List.forall_mem_cons.mpr ⟨lw_p11, List.forall_mem_cons.mpr ⟨lw_p12, List.forall_mem_cons.mpr ⟨lw_p13, List.forall_mem_cons.mpr ⟨lw_p14, List.forall_mem_cons.mpr ⟨lw_p15, fun _ h => absurd h List.not_mem_nil⟩⟩⟩⟩⟩⟩⟩⟩⟩⟩⟩⟩⟩⟩⟩⟩
theorem lw_p16 : lw_okq (⟨"LinearRows", "leaveOutUnlessNeeded", "(II)V"⟩, 9) := ⟨⟨by decide +kernel, by decide +kernel⟩, List.mem_of_getElem? (i := 15) (by decide +kernel), List.mem_of_getElem? (i := 543) (by decide +kernel), List.mem_of_getElem? (i := 544) (by decide +kernel)⟩
theorem lw_p17 : lw_okq (⟨"LinearRows", "leaveOutSingles", "()V"⟩, 9) := ⟨⟨by decide +kernel, by decide +kernel⟩, List.mem_of_getElem? (i := 15) (by decide +kernel), List.mem_of_getElem? (i := 549) (by decide +kernel), List.mem_of_getElem? (i := 550) (by decide +kernel)⟩
theorem lw_p18 : lw_okq (⟨"LinearRows", "tellLeftRows", "()V"⟩, 9) := ⟨⟨by decide +kernel, by decide +kernel⟩, List.mem_of_getElem? (i := 15) (by decide +kernel), List.mem_of_getElem? (i := 553) (by decide +kernel), List.mem_of_getElem? (i := 554) (by decide +kernel)⟩
theorem lw_p19 : lw_okq (⟨"LinearRows", "countEmpty", "()I"⟩, 9) := ⟨⟨by decide +kernel, by decide +kernel⟩, List.mem_of_getElem? (i := 15) (by decide +kernel), List.mem_of_getElem? (i := 591) (by decide +kernel), List.mem_of_getElem? (i := 592) (by decide +kernel)⟩
theorem lw_p20 : lw_okq (⟨"LinearRowsModel", "isShape", "(I)Z"⟩, 13) := ⟨⟨by decide +kernel, by decide +kernel⟩, List.mem_of_getElem? (i := 599) (by decide +kernel), List.mem_of_getElem? (i := 656) (by decide +kernel), List.mem_of_getElem? (i := 657) (by decide +kernel)⟩
theorem lw_p21 : lw_okq (⟨"LinearRowsModel", "none", "(I)V"⟩, 13) := ⟨⟨by decide +kernel, by decide +kernel⟩, List.mem_of_getElem? (i := 599) (by decide +kernel), List.mem_of_getElem? (i := 660) (by decide +kernel), List.mem_of_getElem? (i := 661) (by decide +kernel)⟩
theorem lw_p22 : lw_okq (⟨"LinearRowsModel", "isTerm", "(I)Z"⟩, 13) := ⟨⟨by decide +kernel, by decide +kernel⟩, List.mem_of_getElem? (i := 599) (by decide +kernel), List.mem_of_getElem? (i := 668) (by decide +kernel), List.mem_of_getElem? (i := 669) (by decide +kernel)⟩
theorem lw_p23 : lw_okq (⟨"LinearRowsModel", "closeShape", "(I)Z"⟩, 13) := ⟨⟨by decide +kernel, by decide +kernel⟩, List.mem_of_getElem? (i := 599) (by decide +kernel), List.mem_of_getElem? (i := 684) (by decide +kernel), List.mem_of_getElem? (i := 685) (by decide +kernel)⟩
theorem lw_p24 : lw_okq (⟨"LinearRowsModel", "loadRows", "(I)V"⟩, 13) := ⟨⟨by decide +kernel, by decide +kernel⟩, List.mem_of_getElem? (i := 599) (by decide +kernel), List.mem_of_getElem? (i := 688) (by decide +kernel), List.mem_of_getElem? (i := 689) (by decide +kernel)⟩
theorem lw_p25 : lw_okq (⟨"LinearRowsModel", "close", "()Z"⟩, 13) := ⟨⟨by decide +kernel, by decide +kernel⟩, List.mem_of_getElem? (i := 599) (by decide +kernel), List.mem_of_getElem? (i := 692) (by decide +kernel), List.mem_of_getElem? (i := 693) (by decide +kernel)⟩
theorem lw_p26 : lw_okq (⟨"LinearRowsModel", "isFar", "()Z"⟩, 13) := ⟨⟨by decide +kernel, by decide +kernel⟩, List.mem_of_getElem? (i := 599) (by decide +kernel), List.mem_of_getElem? (i := 702) (by decide +kernel), List.mem_of_getElem? (i := 703) (by decide +kernel)⟩
theorem lw_p27 : lw_okq (⟨"LinearRowsModel", "boundOf", "(II)J"⟩, 13) := ⟨⟨by decide +kernel, by decide +kernel⟩, List.mem_of_getElem? (i := 599) (by decide +kernel), List.mem_of_getElem? (i := 712) (by decide +kernel), List.mem_of_getElem? (i := 713) (by decide +kernel)⟩
theorem lw_p28 : lw_okq (⟨"LinearRowsModel", "areShapes", "(III)Z"⟩, 13) := ⟨⟨by decide +kernel, by decide +kernel⟩, List.mem_of_getElem? (i := 599) (by decide +kernel), List.mem_of_getElem? (i := 725) (by decide +kernel), List.mem_of_getElem? (i := 726) (by decide +kernel)⟩
theorem lw_p29 : lw_okq (⟨"LinearRowsModel", "keepClosed", "(IZ)I"⟩, 13) := ⟨⟨by decide +kernel, by decide +kernel⟩, List.mem_of_getElem? (i := 599) (by decide +kernel), List.mem_of_getElem? (i := 729) (by decide +kernel), List.mem_of_getElem? (i := 730) (by decide +kernel)⟩
theorem lw_p30 : lw_okq (⟨"LinearRowsModel", "copyTable", "(Z)V"⟩, 13) := ⟨⟨by decide +kernel, by decide +kernel⟩, List.mem_of_getElem? (i := 599) (by decide +kernel), List.mem_of_getElem? (i := 733) (by decide +kernel), List.mem_of_getElem? (i := 734) (by decide +kernel)⟩
theorem lw_p31 : lw_okq (⟨"LinearRowsModel", "copyRows", "(II)V"⟩, 13) := ⟨⟨by decide +kernel, by decide +kernel⟩, List.mem_of_getElem? (i := 599) (by decide +kernel), List.mem_of_getElem? (i := 745) (by decide +kernel), List.mem_of_getElem? (i := 746) (by decide +kernel)⟩
def lw_privs_2 : List (MethodName × Nat) := [(⟨"LinearRows", "leaveOutUnlessNeeded", "(II)V"⟩, 9), (⟨"LinearRows", "leaveOutSingles", "()V"⟩, 9), (⟨"LinearRows", "tellLeftRows", "()V"⟩, 9), (⟨"LinearRows", "countEmpty", "()I"⟩, 9), (⟨"LinearRowsModel", "isShape", "(I)Z"⟩, 13), (⟨"LinearRowsModel", "none", "(I)V"⟩, 13), (⟨"LinearRowsModel", "isTerm", "(I)Z"⟩, 13), (⟨"LinearRowsModel", "closeShape", "(I)Z"⟩, 13), (⟨"LinearRowsModel", "loadRows", "(I)V"⟩, 13), (⟨"LinearRowsModel", "close", "()Z"⟩, 13), (⟨"LinearRowsModel", "isFar", "()Z"⟩, 13), (⟨"LinearRowsModel", "boundOf", "(II)J"⟩, 13), (⟨"LinearRowsModel", "areShapes", "(III)Z"⟩, 13), (⟨"LinearRowsModel", "keepClosed", "(IZ)I"⟩, 13), (⟨"LinearRowsModel", "copyTable", "(Z)V"⟩, 13), (⟨"LinearRowsModel", "copyRows", "(II)V"⟩, 13)]
theorem lw_r2 : ∀ q ∈ lw_privs_2, lw_okq q := List.forall_mem_cons.mpr ⟨lw_p16, List.forall_mem_cons.mpr ⟨lw_p17, List.forall_mem_cons.mpr ⟨lw_p18, List.forall_mem_cons.mpr ⟨lw_p19, List.forall_mem_cons.mpr ⟨lw_p20, List.forall_mem_cons.mpr ⟨lw_p21, List.forall_mem_cons.mpr ⟨lw_p22, List.forall_mem_cons.mpr ⟨lw_p23, List.forall_mem_cons.mpr ⟨lw_p24, List.forall_mem_cons.mpr ⟨lw_p25, List.forall_mem_cons.mpr ⟨lw_p26, List.forall_mem_cons.mpr ⟨lw_p27, List.forall_mem_cons.mpr ⟨lw_p28, List.forall_mem_cons.mpr ⟨lw_p29, List.forall_mem_cons.mpr ⟨lw_p30, List.forall_mem_cons.mpr ⟨lw_p31, fun _ h => absurd h List.not_mem_nil⟩⟩⟩⟩⟩⟩⟩⟩⟩⟩⟩⟩⟩⟩⟩⟩
theorem lw_p32 : lw_okq (⟨"LinearRowsModel", "closeMade", "()Z"⟩, 13) := ⟨⟨by decide +kernel, by decide +kernel⟩, List.mem_of_getElem? (i := 599) (by decide +kernel), List.mem_of_getElem? (i := 749) (by decide +kernel), List.mem_of_getElem? (i := 750) (by decide +kernel)⟩
theorem lw_p33 : lw_okq (⟨"LinearRowsModel", "keepMade", "(I)V"⟩, 13) := ⟨⟨by decide +kernel, by decide +kernel⟩, List.mem_of_getElem? (i := 599) (by decide +kernel), List.mem_of_getElem? (i := 753) (by decide +kernel), List.mem_of_getElem? (i := 754) (by decide +kernel)⟩
theorem lw_p34 : lw_okq (⟨"LinearRowsModel", "isName", "(I)Z"⟩, 13) := ⟨⟨by decide +kernel, by decide +kernel⟩, List.mem_of_getElem? (i := 599) (by decide +kernel), List.mem_of_getElem? (i := 769) (by decide +kernel), List.mem_of_getElem? (i := 770) (by decide +kernel)⟩
theorem lw_p35 : lw_okq (⟨"LinearRowsModel", "turn", "(IZJ)V"⟩, 13) := ⟨⟨by decide +kernel, by decide +kernel⟩, List.mem_of_getElem? (i := 599) (by decide +kernel), List.mem_of_getElem? (i := 773) (by decide +kernel), List.mem_of_getElem? (i := 774) (by decide +kernel)⟩
theorem lw_p36 : lw_okq (⟨"LinearRowsModel", "drop", "(I)V"⟩, 13) := ⟨⟨by decide +kernel, by decide +kernel⟩, List.mem_of_getElem? (i := 599) (by decide +kernel), List.mem_of_getElem? (i := 777) (by decide +kernel), List.mem_of_getElem? (i := 778) (by decide +kernel)⟩
theorem lw_p37 : lw_okq (⟨"LinearRowsModel", "addRow", "(IIJ)V"⟩, 13) := ⟨⟨by decide +kernel, by decide +kernel⟩, List.mem_of_getElem? (i := 599) (by decide +kernel), List.mem_of_getElem? (i := 781) (by decide +kernel), List.mem_of_getElem? (i := 782) (by decide +kernel)⟩
theorem lw_p38 : lw_okq (⟨"LinearRowsModel", "valueAt", "(I)J"⟩, 13) := ⟨⟨by decide +kernel, by decide +kernel⟩, List.mem_of_getElem? (i := 599) (by decide +kernel), List.mem_of_getElem? (i := 805) (by decide +kernel), List.mem_of_getElem? (i := 806) (by decide +kernel)⟩
theorem lw_p39 : lw_okq (⟨"LinearRowsModel", "listRow", "(II)V"⟩, 13) := ⟨⟨by decide +kernel, by decide +kernel⟩, List.mem_of_getElem? (i := 599) (by decide +kernel), List.mem_of_getElem? (i := 821) (by decide +kernel), List.mem_of_getElem? (i := 822) (by decide +kernel)⟩
def lw_privs_3 : List (MethodName × Nat) := [(⟨"LinearRowsModel", "closeMade", "()Z"⟩, 13), (⟨"LinearRowsModel", "keepMade", "(I)V"⟩, 13), (⟨"LinearRowsModel", "isName", "(I)Z"⟩, 13), (⟨"LinearRowsModel", "turn", "(IZJ)V"⟩, 13), (⟨"LinearRowsModel", "drop", "(I)V"⟩, 13), (⟨"LinearRowsModel", "addRow", "(IIJ)V"⟩, 13), (⟨"LinearRowsModel", "valueAt", "(I)J"⟩, 13), (⟨"LinearRowsModel", "listRow", "(II)V"⟩, 13)]
theorem lw_r3 : ∀ q ∈ lw_privs_3, lw_okq q := List.forall_mem_cons.mpr ⟨lw_p32, List.forall_mem_cons.mpr ⟨lw_p33, List.forall_mem_cons.mpr ⟨lw_p34, List.forall_mem_cons.mpr ⟨lw_p35, List.forall_mem_cons.mpr ⟨lw_p36, List.forall_mem_cons.mpr ⟨lw_p37, List.forall_mem_cons.mpr ⟨lw_p38, List.forall_mem_cons.mpr ⟨lw_p39, fun _ h => absurd h List.not_mem_nil⟩⟩⟩⟩⟩⟩⟩⟩
def lw_privs : List (MethodName × Nat) := lw_privs_1 ++ (lw_privs_2 ++ (lw_privs_3))
def lw_tbl : List Cond := k2_sels lw_privs ++ tables_1
theorem lw_privs_ok : ∀ q ∈ lw_privs, lw_okq q := by
  show ∀ q ∈ lw_privs_1 ++ (lw_privs_2 ++ (lw_privs_3)), lw_okq q
  exact List.forall_mem_append.mpr ⟨lw_r1, List.forall_mem_append.mpr ⟨lw_r2, lw_r3⟩⟩
end
section
/-! ===== BEGIN words of one list among another's, by their places ===== -/
theorem goodIn_r {big : List Cond} (ws : List Cond) (ps : List Nat) (hp : ws = ps.filterMap (fun i => big[i]?)) (h : ws.all goodWord = true) : GoodIn big ws := by
  intro w hw
  have h1 := List.all_eq_true.mp h w hw
  rw [hp] at hw
  obtain ⟨i, -, hi⟩ := List.mem_filterMap.mp hw
  have hm : w ∈ big := by first | exact List.mem_of_getElem? hi | exact List.getElem?_mem hi
  exact ⟨hm, good_of_word h1⟩
theorem goodIn_app {big a b : List Cond} (ha : GoodIn big a) (hb : GoodIn big b) : GoodIn big (a ++ b) := fun w h => (List.mem_append.mp h).elim (ha w) (hb w)
theorem goodIn_ca {big a b : List Cond} {c : Cond} (ha : GoodIn big (c :: a)) (hb : GoodIn big b) : GoodIn big (c :: (a ++ b)) := fun w h => (List.mem_cons.mp h).elim (fun e => ha w (List.mem_cons.mpr (Or.inl e))) (fun h => (List.mem_append.mp h).elim (fun h => ha w (List.mem_cons.mpr (Or.inr h))) (hb w))
theorem goodIn_sub {big ws : List Cond} (hm : ∀ w ∈ ws, w ∈ big) (h : ws.all goodWord = true) : GoodIn big ws := fun w hw => ⟨hm w hw, good_of_word (List.all_eq_true.mp h w hw)⟩
/-! ===== END ===== -/

/-! ===== BEGIN exceptions that leave a method, and their catching by the caller (launches without stack traces) ===== -/
section VXA
/-! The laws vx_back, vx_callV, vx_callS, vx_callSW, vx_throw0, vx_throwS follow proofs of the library, with one case more: JvmDerived/Free/Laws.lean (Back.of_free), Shelf42/LK1.lean (callV, callS), Shelf/KitTraced.lean (throwNew0V, throwNewS). -/
/-- where a method has thrown q: the class by its name, the cell, what was written, the world -/
def vx_T (XC : String → State → State → Prop) (st : State) (q : Addr) (t : State) (mc ms : Nat) (free : Addr → Prop) : Prop :=
  ∃ (E : String) (ce : Cell) (L : List Loc), XC E st t ∧ t.heap[q]? = some ce ∧ ce.vm = .none ∧ st.vm.findClass E = some ce.cls ∧ st.WarmedH t.vm ∧ st.sameButNew ({ t with vm := st.vm } : State) L mc ms ∧ ∀ z ∈ L, free z.base
def vx_Q (Qc : Array Value → State → Outcome → State → Prop) (XC : String → State → State → Prop) (mc ms : Nat) (free : Addr → Prop) : Array Value → State → Outcome → State → Prop := fun a st o t =>
  (Qc a st o t ∧ ∃ L, FrameEnd st o t L mc ms ∧ ∀ q ∈ L, free q.base) ∨ ∃ q, o = .threw q ∧ vx_T XC st q t mc ms free
/-- a callee that returns or throws -/
def vx_Met (l : Launch) (y : MethodName) (ws : List Cond) (rm : Room) (Pc : Array Value → State → Prop) (Qc : Array Value → State → Outcome → State → Prop) (XC : String → State → State → Prop) (mc ms : Nat) (free : Addr → Prop) : Prop :=
  MetFree l y (headSpec ws rm) Pc (fun _ _ _ _ _ => True) (vx_Q Qc XC mc ms free)
def vx_Post (XC : String → State → State → Prop) (mc ms : Nat) (free : Addr → Prop) : Pt → Array Value → Addr → Pt → Prop := fun A a q B =>
  ∃ (g : JFrame) (mk : MethodId) (t : State) (L : List Loc) (E : String) (ce : Cell), B.U.heap = t.heap ∧ B.U.vm = t.vm ∧ XC E (A.U.calling g mk a) t ∧ t.heap[q]? = some ce ∧ ce.vm = .none ∧ A.U.vm.findClass E = some ce.cls ∧ B.locs = A.locs ++ L ∧ (∀ z ∈ L, free z.base) ∧ B.cells = A.cells + mc ∧ B.slots = A.slots + ms
def vx_Back (l : Launch) (R : Room) (p : Program) (e : Env) (below : List Frame) (s : State) (sargs : Array Value) (y : MethodName) (len W9 : Nat)
    (Pre : Pt → Array Value → Prop) (Post : Pt → Array Value → Option Value → Pt → Prop) (PostX : Pt → Array Value → Addr → Pt → Prop) : Prop :=
  ∀ (m : MethodId) (meth : Method) (c : Code) (A : Pt) (g : JFrame) (ig : Instr) (mk : MethodId) (a : Array Value),
    Stand p l e R s m sargs below meth c A.U A.locs A.cells A.slots → g.method = m → g.locals.size = c.maxLocals → decode c.code g.pc = .ok (ig, len) →
    2 * g.monitorRoom + (g.stack.map fun v => v.category).sum ≤ W9 → A.U.methodNamed? y = some mk → Pre A a →
    (∃ (v : Option Value) (B : Pt), Stand p l e R s m sargs below meth c B.U B.locs B.cells B.slots ∧ Post A a v B ∧
      Steps p.tables e below (doInvoke e (A.U.setTop g) [] mk a).1 (B.U.setTop { g with pc := g.pc + len, stack := v.toList ++ g.stack })) ∨
    (∃ (q : Addr) (B : Pt), Stand p l e R s m sargs below meth c B.U B.locs B.cells B.slots ∧ PostX A a q B ∧
      Steps p.tables e below (doInvoke e (A.U.setTop g) [] mk a).1 ((B.U.setTop g).pushFrame (.throwing q)))
section Payer
variable {l : Launch} {R : Room} {p : Program} {e : Env} {below : List Frame} {s : State} {sargs : Array Value} {y : MethodName} {len W9 : Nat}
theorem vx_back {ws : List Cond} {rm : Room} {Pc : Array Value → State → Prop} {Qc : Array Value → State → Outcome → State → Prop} {XC : String → State → State → Prop} {mc ms : Nat} {free : Addr → Prop} {bytes : ByteArray} {maxL : Nat} {ret : Option FieldType}
    (hM : vx_Met l y ws rm Pc Qc XC mc ms free) (hblind : FrameBlind Pc) (hrc : rm.cells = mc) (hrs : rm.slots = ms)
    (hframes : rm.frames + 1 ≤ R.frames) (hlocals : W9 + (maxL + 11) + rm.locals ≤ R.locals)
    (hws : ∀ w ∈ ws, ∀ a' U, s.WarmedH U.vm → w.before a' U = true) (hcode : Cond.code y bytes maxL ret ∈ ws) (hinit : ∀ a' U, s.WarmedH U.vm → (Cond.initialized y.cls).before a' U = true) :
    vx_Back l R p e below s sargs y len W9 (PreOf R mc ms Pc) (PostOf Qc mc ms free) (vx_Post XC mc ms free) := by
  intro m meth c A g ig mk a X hg hsize hdg hW hn hp
  have h1 : (headSpec ws rm).pre.before a A.U = true := atoms_intro fun w hw => hws w hw _ _ X.warmed
  have h2 : (Cond.code y bytes maxL ret).before a A.U = true := hws _ hcode _ _ X.warmed
  have h3 : (Cond.initialized y.cls).before a A.U = true := hinit _ _ X.warmed
  have h4 : A.cells + (headSpec ws rm).room.cells ≤ R.cells := by rw [show (headSpec ws rm).room.cells = mc from hrc]; exact hp.1
  have h5 : A.slots + (headSpec ws rm).room.slots ≤ R.slots := by rw [show (headSpec ws rm).room.slots = ms from hrs]; exact hp.2.1
  have hPc : Pc a (A.U.calling g mk a) := hblind _ _ _ _ hp.2.2
  obtain ⟨U, Ls, c0, s0⟩ := A
  dsimp only [Pt.U, Pt.locs, Pt.cells, Pt.slots] at h1 h2 h3 h4 h5 X hn hPc ⊢
  obtain ⟨methY, cY, hmY, hcY, -, hlY, -, -, -, -⟩ := Cond.code_spec hn h2
  obtain ⟨kY, hkY, -⟩ := className_of_methodNamed hn
  have hinitY : kY.init = .initialized := Cond.initialized_spec (findClass_of_methodNamed hn) hkY h3
  have h : At U g.method c below := by rw [hg]; exact X.here
  have hlocals9 : W9 + (maxL + 11) + (headSpec ws rm).room.locals ≤ R.locals := hlocals
  have happ : (headSpec ws rm).appliesLoose y e.platform (U.calling g mk a) = true :=
    Spec.appliesLoose_calling (g := g) h hdg hn hkY hinitY
      (X.room_calling (g := g) (R' := (headSpec ws rm).room) hsize hmY hcY hframes (by rw [hlY]; omega) h4 h5) h1
  obtain ⟨mid, hmid⟩ := h.above
  have hfr : (U.setTop g).frames = (.java g :: mid) ++ below := by rw [State.frames_setTop' g h.top, hmid]; rfl
  obtain ⟨o, s₂, hsteps, -, hend, hq⟩ := Steps.callFree hM p X.admits X.cas X.clock (acts := []) hfr happ hPc trivial
  have hq' : vx_Q Qc XC mc ms free a (U.calling g mk a) o s₂ := hq
  rw [State.frames_setTop' g h.top] at hend
  obtain ⟨g₀, hg0⟩ := Option.isSome_iff_exists.mp h.top
  obtain ⟨r, hr⟩ := State.topJava?_eq_some.mp hg0
  have hr' : (({ U with heap := s₂.heap, slotsUsed := s₂.slotsUsed } : State).setVm s₂.vm).frames = .java g₀ :: r := hr
  rcases hq' with ⟨hqc, L, hfe, hL⟩ | ⟨q, rfl, E, ce, L, hx, hce, hcv, hcl, hW₂, hsm, hL⟩
  · obtain ⟨⟨v, rfl⟩, hW₂, e2, q2, q3, q4, q5, q6⟩ := id hfe
    have e3 : s₂ = ({ (U.calling g mk a).setFrames s₂.frames with heap := s₂.heap, slotsUsed := s₂.slotsUsed } : State).setVm s₂.vm := by
      have : s₂ = ({ s₂ with vm := (U.calling g mk a).vm } : State).setVm s₂.vm := rfl
      rw [e2] at this
      exact this
    obtain ⟨c₂, i₂, len₂, hc₂, hd₂, hf₂⟩ := hend
    have hW' : U.WarmedH s₂.vm := hW₂
    have hcc : c₂ = c := by
      have h1 : s₂.code? g.method = U.code? g.method := by
        rw [State.code?_eq, State.code?_eq, hW'.alike.method?]
      exact Option.some.inj (hc₂.symm.trans (h1.trans h.code))
    subst hcc
    have hlen : len₂ = len := by rw [hdg] at hd₂; cases hd₂; rfl
    subst hlen
    have hs₂ : s₂ = (({ U with heap := s₂.heap, slotsUsed := s₂.slotsUsed } : State).setVm s₂.vm).setTop { g with pc := g.pc + len₂, stack := v.toList ++ g.stack } := by
      refine e3.trans ?_
      rw [hf₂, State.calling_eq h.top, State.setFrames_setFrames, State.setTop_of_frames _ hr', hr]
      rfl
    have hsame : U.sameButNew ({ U with heap := s₂.heap, slotsUsed := s₂.slotsUsed } : State) L mc ms := by
      refine ⟨?_, q2, q3, q4, q5, q6⟩
      obtain ⟨t, ht, -⟩ := State.frames_cons hr
      show ({ U with heap := s₂.heap, slotsUsed := s₂.slotsUsed } : State) = { U.setFrames U.frames with heap := s₂.heap, slotsUsed := s₂.slotsUsed }
      rw [State.setFrames_self ht]
    subst hg
    refine Or.inl ⟨v, ⟨(({ U with heap := s₂.heap, slotsUsed := s₂.slotsUsed } : State).setVm s₂.vm), Ls ++ L, c0 + mc, s0 + ms⟩,
      ⟨X.admits, X.cas, X.clock, X.frames, X.room, X.hears, X.method, X.code, (X.here.setHeapUsed s₂.heap s₂.slotsUsed).setVm hW'.alike, X.tail, State.WarmedH.trans X.warmed hW', X.limits, X.bytes, X.same.trans (hsame.setVm s.vm)⟩,
      ⟨g, mk, s₂, L, rfl, rfl, hqc, rfl, hL, rfl, rfl⟩, ?_⟩
    show Steps p.tables e below _ ((({ U with heap := s₂.heap, slotsUsed := s₂.slotsUsed } : State).setVm s₂.vm).setTop { g with pc := g.pc + len₂, stack := v.toList ++ g.stack })
    rw [← hs₂]
    exact hsteps
  · obtain ⟨e2, q2, q3, q4, q5, q6⟩ := id hsm
    have e3 : s₂ = ({ (U.calling g mk a).setFrames s₂.frames with heap := s₂.heap, slotsUsed := s₂.slotsUsed } : State).setVm s₂.vm := by
      have : s₂ = ({ s₂ with vm := (U.calling g mk a).vm } : State).setVm s₂.vm := rfl
      rw [e2] at this
      exact this
    have hf₂ : s₂.frames = .throwing q :: .java g :: U.frames.tail := hend
    have hW' : U.WarmedH s₂.vm := hW₂
    have hs₂ : s₂ = ((({ U with heap := s₂.heap, slotsUsed := s₂.slotsUsed } : State).setVm s₂.vm).setTop g).pushFrame (.throwing q) := by
      refine e3.trans ?_
      rw [hf₂, State.calling_eq h.top, State.setFrames_setFrames, State.pushFrame, State.frames_setTop _ hr', State.setTop_of_frames _ hr', State.setFrames_setFrames, hr]
      rfl
    have hsame : U.sameButNew ({ U with heap := s₂.heap, slotsUsed := s₂.slotsUsed } : State) L mc ms := by
      refine ⟨?_, q2, q3, q4, q5, q6⟩
      obtain ⟨t, ht, -⟩ := State.frames_cons hr
      show ({ U with heap := s₂.heap, slotsUsed := s₂.slotsUsed } : State) = { U.setFrames U.frames with heap := s₂.heap, slotsUsed := s₂.slotsUsed }
      rw [State.setFrames_self ht]
    subst hg
    refine Or.inr ⟨q, ⟨(({ U with heap := s₂.heap, slotsUsed := s₂.slotsUsed } : State).setVm s₂.vm), Ls ++ L, c0 + mc, s0 + ms⟩,
      ⟨X.admits, X.cas, X.clock, X.frames, X.room, X.hears, X.method, X.code, (X.here.setHeapUsed s₂.heap s₂.slotsUsed).setVm hW'.alike, X.tail, State.WarmedH.trans X.warmed hW', X.limits, X.bytes, X.same.trans (hsame.setVm s.vm)⟩,
      ⟨g, mk, s₂, L, E, ce, rfl, rfl, hx, hce, hcv, hcl, rfl, hL, rfl, rfl⟩, ?_⟩
    show Steps p.tables e below _ (((({ U with heap := s₂.heap, slotsUsed := s₂.slotsUsed } : State).setVm s₂.vm).setTop g).pushFrame (.throwing q))
    rw [← hs₂]
    exact hsteps
end Payer
section Calls
variable {p : Program} {l : Launch} {e : Env} {R : Room} {s : State} {m : MethodId} {args : Array Value} {below : List Frame} {meth : Method} {c : Code} {T : State} {locs : List Loc} {cells slots : Nat}
theorem vx_callV (X : Stand p l e R s m args below meth c T locs cells slots) (hexec : p.tables.exec = Jvm.exec) {own C : String} {index : Nat} {y : MethodName} {bytes : ByteArray} {maxL : Nat} {ret : Option FieldType}
    (hown : s.vm.findClass own = some m.cls) (hlink : (Cond.methodLink own index y).before args s = true) (hinst : (Cond.instanceMethod y).before args s = true) (hsel : (Cond.selects C y y).before args s = true)
    (hcode : (Cond.code y bytes maxL ret).before args s = true) (hy : y.cls ≠ "java/lang/invoke/MethodHandle" ∧ y.cls ≠ "java/lang/invoke/VarHandle")
    {W9 : Nat} {Pre : Pt → Array Value → Prop} {Post : Pt → Array Value → Option Value → Pt → Prop} {PostX : Pt → Array Value → Addr → Pt → Prop} (hK : vx_Back l R p e below s args y 3 W9 Pre Post PostX)
    {b : Addr} {cellB : Cell} (hcell : T.heap[b]? = some cellB) (hobj : cellB.vm.isStatics = false) (hcls : s.vm.findClass C = some cellB.cls)
    {g : JFrame} (hg : g.method = m) (hsize : g.locals.size = c.maxLocals) {argsL rest : List Value} (hlen : ∀ sig, parseMethodDescriptor y.desc = some sig → argsL.length = sig.parameters.length)
    (hstack : g.stack = argsL.reverse ++ .ref b :: rest) (hW : 2 * g.monitorRoom + (rest.map fun v => v.category).sum ≤ W9) (hdg : decode c.code g.pc = .ok (.invokevirtual index, 3))
    (hpre : ∀ vm₁, s.WarmedH vm₁ → Pre ⟨T.setVm vm₁, locs, cells, slots⟩ (Value.ref b :: argsL).toArray) :
    (∃ (v : Option Value) (vm₁ : Vm) (B : Pt), s.WarmedH vm₁ ∧ Stand p l e R s m args below meth c B.U B.locs B.cells B.slots ∧ Post ⟨T.setVm vm₁, locs, cells, slots⟩ (Value.ref b :: argsL).toArray v B ∧
      ∀ target, Steps p.tables e below (B.U.setTop { g with pc := g.pc + 3, stack := v.toList ++ rest }) target → Steps p.tables e below (T.setTop g) target) ∨
    (∃ (q : Addr) (vm₁ : Vm) (B : Pt), s.WarmedH vm₁ ∧ Stand p l e R s m args below meth c B.U B.locs B.cells B.slots ∧ PostX ⟨T.setVm vm₁, locs, cells, slots⟩ (Value.ref b :: argsL).toArray q B ∧
      Steps p.tables e below (T.setTop g) ((B.U.setTop { g with stack := rest }).pushFrame (.throwing q))) := by
  obtain ⟨mk, methM, hnamed, hmethM, hstM, habM⟩ := Cond.instanceMethod_spec hinst
  obtain ⟨methM', cM, hmethM', -, -, -, -, -, -, hsigM⟩ := Cond.code_spec hnamed hcode
  cases hmethM.symm.trans hmethM'
  obtain ⟨c2, r2, m2, q1, q2, q3, q4, kP, hkP, hkPi⟩ := Cond.selects_spec hsel
  cases hcls.symm.trans q1
  cases (State.methodFound?_of_named hnamed hy).symm.trans q2
  cases hnamed.symm.trans q3
  have hselP : selectMethod e.platform s.vm cellB.cls mk = .method mk := by rw [Launch.admits_selectMethod X.admits]; exact q4
  obtain ⟨vm₁, X₁, hstep₁⟩ := X.invokevirtual hexec hown hlink hnamed hmethM hstM hkP hkPi hy (a := b) (cell := cellB) hcell
    (fun z h => by rw [h] at hobj; cases hobj) hselP hmethM habM hkP hkPi (g := g) hg (argsL := argsL) (rest := rest) (hlen _ hsigM) hstack hdg
  rcases hK m meth c ⟨T.setVm vm₁, locs, cells, slots⟩ { g with stack := rest } (.invokevirtual index) mk (Value.ref b :: argsL).toArray X₁ hg hsize hdg hW (X₁.named hnamed) (hpre vm₁ X₁.warmed) with ⟨v, B, X', hpost, hsteps⟩ | ⟨q, B, X', hpost, hsteps⟩
  · exact Or.inl ⟨v, vm₁, B, X₁.warmed, X', hpost, fun target h => hstep₁ _ fun acts => by rw [doInvoke_state]; exact hsteps.trans h⟩
  · exact Or.inr ⟨q, vm₁, B, X₁.warmed, X', hpost, hstep₁ _ fun acts => by rw [doInvoke_state]; exact hsteps⟩
theorem vx_callS (X : Stand p l e R s m args below meth c T locs cells slots) (hexec : p.tables.exec = Jvm.exec) {own : String} {index : Nat} {y : MethodName} {bytes : ByteArray} {maxL : Nat} {ret : Option FieldType}
    (hown : s.vm.findClass own = some m.cls) (hlink : (Cond.methodLink own index y).before args s = true) (hstat : (Cond.static y).before args s = true) (hinit : (Cond.initialized y.cls).before args s = true)
    (hcode : (Cond.code y bytes maxL ret).before args s = true) (hy : y.cls ≠ "java/lang/invoke/MethodHandle" ∧ y.cls ≠ "java/lang/invoke/VarHandle")
    {W9 : Nat} {Pre : Pt → Array Value → Prop} {Post : Pt → Array Value → Option Value → Pt → Prop} {PostX : Pt → Array Value → Addr → Pt → Prop} (hK : vx_Back l R p e below s args y 3 W9 Pre Post PostX)
    {g : JFrame} (hg : g.method = m) (hsize : g.locals.size = c.maxLocals) {argsL rest : List Value} (hlen : ∀ sig, parseMethodDescriptor y.desc = some sig → argsL.length = sig.parameters.length)
    (hstack : g.stack = argsL.reverse ++ rest) (hW : 2 * g.monitorRoom + (rest.map fun v => v.category).sum ≤ W9) (hdg : decode c.code g.pc = .ok (.invokestatic index, 3))
    (hpre : ∀ vm₁, s.WarmedH vm₁ → Pre ⟨T.setVm vm₁, locs, cells, slots⟩ argsL.toArray) :
    (∃ (v : Option Value) (vm₁ : Vm) (B : Pt), s.WarmedH vm₁ ∧ Stand p l e R s m args below meth c B.U B.locs B.cells B.slots ∧ Post ⟨T.setVm vm₁, locs, cells, slots⟩ argsL.toArray v B ∧
      ∀ target, Steps p.tables e below (B.U.setTop { g with pc := g.pc + 3, stack := v.toList ++ rest }) target → Steps p.tables e below (T.setTop g) target) ∨
    (∃ (q : Addr) (vm₁ : Vm) (B : Pt), s.WarmedH vm₁ ∧ Stand p l e R s m args below meth c B.U B.locs B.cells B.slots ∧ PostX ⟨T.setVm vm₁, locs, cells, slots⟩ argsL.toArray q B ∧
      Steps p.tables e below (T.setTop g) ((B.U.setTop { g with stack := rest }).pushFrame (.throwing q))) := by
  obtain ⟨mk, hnamed⟩ := Cond.code_named hcode
  obtain ⟨methM, cM, hmethM, -, -, -, -, -, -, hsigM⟩ := Cond.code_spec hnamed hcode
  have hstatic : methM.isStatic = true := Cond.static_spec hnamed hmethM hstat
  obtain ⟨kP, hkP, -⟩ := className_of_methodNamed hnamed
  have hinitP : kP.init = .initialized := Cond.initialized_spec (findClass_of_methodNamed hnamed) hkP hinit
  obtain ⟨vm₁, X₁, hstep₁⟩ := X.invokestatic hexec hown hlink hnamed hmethM hstatic hkP hinitP hy (g := g) hg (argsL := argsL) (rest := rest) (hlen _ hsigM) hstack hdg
  rcases hK m meth c ⟨T.setVm vm₁, locs, cells, slots⟩ { g with stack := rest } (.invokestatic index) mk argsL.toArray X₁ hg hsize hdg hW (X₁.named hnamed) (hpre vm₁ X₁.warmed) with ⟨v, B, X', hpost, hsteps⟩ | ⟨q, B, X', hpost, hsteps⟩
  · exact Or.inl ⟨v, vm₁, B, X₁.warmed, X', hpost, fun target h => hstep₁ _ fun acts => by rw [doInvoke_state]; exact hsteps.trans h⟩
  · exact Or.inr ⟨q, vm₁, B, X₁.warmed, X', hpost, hstep₁ _ fun acts => by rw [doInvoke_state]; exact hsteps⟩
end Calls
theorem vx_cls {s : State} {T : State} {vm₁ : Vm} {E : String} {k : ClassId} (hW : s.WarmedH vm₁) (h : (T.setVm vm₁).vm.findClass E = some k) : s.vm.findClass E = some k := by
  have h1 : vm₁.findClass E = some k := h
  rw [hW.alike.findClass] at h1
  exact h1
/-- the method's frame g, with q thrown over it -/
def vx_W (p : Program) (l : Launch) (e : Env) (R : Room) (s : State) (m : MethodId) (args : Array Value) (below : List Frame) (meth : Method) (c : Code) (H : Heap) (locs : List Loc) (cells slots : Nat) (Q : State → Prop) (g : JFrame) (q : Addr) : Prop :=
  ∀ T : State, T.heap = H → Stand p l e R s m args below meth c T locs cells slots → ∃ t, Steps p.tables e below ((T.setTop g).pushFrame (.throwing q)) t ∧ Q t
def vx_Run (p : Program) (l : Launch) (e : Env) (R : Room) (s : State) (m : MethodId) (args : Array Value) (below : List Frame) (meth : Method) (c : Code) (H : Heap) (locs : List Loc) (cells slots mc ms : Nat) (g : JFrame) (rest : List Value) (Qa : State → Outcome → State → Prop) (XC : String → State → State → Prop) (free : Addr → Prop) : Prop :=
  ∀ T : State, T.heap = H → Stand p l e R s m args below meth c T locs cells slots →
    (∃ (v : Option Value) (st₀ t T' : State) (L : List Loc), st₀.heap = H ∧ Stand p l e R s m args below meth c T' (locs ++ L) (cells + mc) (slots + ms) ∧ (∀ q ∈ L, free q.base) ∧ T'.heap = t.heap ∧ T'.vm = t.vm ∧ Qa st₀ (.returned v) t ∧
      Goes p e below T g T' { g with pc := g.pc + 3, stack := v.toList ++ rest }) ∨
    (∃ (q : Addr) (st₀ t T' : State) (L : List Loc) (E : String) (ce : Cell), st₀.heap = H ∧ Stand p l e R s m args below meth c T' (locs ++ L) (cells + mc) (slots + ms) ∧ (∀ z ∈ L, free z.base) ∧ T'.heap = t.heap ∧ T'.vm = t.vm ∧ XC E st₀ t ∧ t.heap[q]? = some ce ∧ ce.vm = .none ∧ s.vm.findClass E = some ce.cls ∧
      Steps p.tables e below (T.setTop g) ((T'.setTop { g with stack := rest }).pushFrame (.throwing q)))
def vx_X {S : Type} (px : S → Prop) (B : String → S → State → Prop) (A : Nat → Prop) : String → State → State → Prop := fun E st t => ∃ u : S, px u ∧ B E u t ∧ va_F A st t
section Runs
variable {p : Program} {l : Launch} {e : Env} {R : Room} {s : State} {m : MethodId} {args : Array Value} {below : List Frame} {meth : Method} {c : Code} {H : Heap} {locs : List Loc} {cells slots : Nat}
variable {y : MethodName} {bytes cc : ByteArray} {maxL nL mc ms n index : Nat} {ret : Option FieldType} {ws : List Cond} {rm : Room} {Pc : Array Value → State → Prop} {Qc : Array Value → State → Outcome → State → Prop} {XC : String → State → State → Prop} {free : Addr → Prop} {Ts : List Cond} {own C : String} {b : Addr} {As rest : List Value} {g : JFrame}
theorem vx_callBack (cb : CallB R s args own index y bytes maxL ret ws rm mc ms n) (hM : vx_Met l y ws rm Pc Qc XC mc ms free) (hbl : FrameBlind Pc) : vx_Back l R p e below s args y 3 8 (PreOf R mc ms Pc) (PostOf Qc mc ms free) (vx_Post XC mc ms free) := by
  obtain ⟨hrc, hrs, hfr, hlo, hws, hcw, -, hini, -⟩ := cb
  exact vx_back (bytes := bytes) (maxL := maxL) (ret := ret) hM hbl hrc hrs hfr hlo hws hcw (fun a' U hW => word_at hW (Or.inl (by first | rfl | simp [Cond.onTables, Cond.keeps, Cond.steady])) hini)
theorem vx_runV (S : CallFix p m c cc nL s args Ts own) (hM : vx_Met l y ws rm Pc Qc XC mc ms free) (cw : CallW R s args own C index y bytes maxL ret ws rm mc ms n) (hp : PreV s H C b Pc As)
    (hg : g.method = m) (hn : As.length = n) (hsize : g.locals.size = nL) (hstack : g.stack = As.reverse ++ .ref b :: rest) (hW : 2 * g.monitorRoom + (rest.map fun v => v.category).sum ≤ 8) (hdg : decode cc g.pc = .ok (.invokevirtual index, 3)) (hf : cells + mc ≤ R.cells ∧ slots + ms ≤ R.slots) :
    vx_Run p l e R s m args below meth c H locs cells slots mc ms g rest (Qc (Value.ref b :: As).toArray) XC free := by
  have hK : vx_Back l R p e below s args y 3 8 (PreOf R mc ms Pc) (PostOf Qc mc ms free) (vx_Post XC mc ms free) := vx_callBack cw.1 hM hp.1
  obtain ⟨⟨-, -, -, -, -, -, hcode, -, hy, hlen, hl⟩, hin, hse⟩ := cw
  obtain ⟨hx, hb, hml, ho, -⟩ := S
  obtain ⟨-, ⟨cellB, hcB, hoB, hclB⟩, hPc⟩ := hp
  intro T hT X
  rcases vx_callV X hx (C := C) (bytes := bytes) (maxL := maxL) (ret := ret) ho hl hin hse hcode hy hK (by rw [hT]; exact hcB) hoB hclB hg (hsize.trans hml.symm) (argsL := As) (rest := rest) (fun sig h => hn.trans (hlen sig h)) hstack hW (by rw [hb]; exact hdg)
    (fun vm₁ hW₁ => ⟨hf.1, hf.2, hPc (T.setVm vm₁) hT hW₁⟩) with ⟨v, vm₁, ⟨U', l2, c2, s2⟩, hW₁, X', ⟨g', mk, t, L, e1, e2, hq, h1, hL, h2, h3⟩, st⟩ | ⟨q, vm₁, ⟨U', l2, c2, s2⟩, hW₁, X', ⟨g', mk, t, L, E, ce, e1, e2, hq, hce, hcv, hcl, h1, hL, h2, h3⟩, st⟩
  · dsimp only [Pt.U, Pt.locs, Pt.cells, Pt.slots] at X' e1 e2 h1 h2 h3 st
    subst h1; subst h2; subst h3
    exact Or.inl ⟨v, (T.setVm vm₁).calling g' mk (Value.ref b :: As).toArray, t, U', L, hT, X', hL, e1, e2, hq, st⟩
  · dsimp only [Pt.U, Pt.locs, Pt.cells, Pt.slots] at X' e1 e2 h1 h2 h3 st hcl
    subst h1; subst h2; subst h3
    exact Or.inr ⟨q, (T.setVm vm₁).calling g' mk (Value.ref b :: As).toArray, t, U', L, E, ce, hT, X', hL, e1, e2, hq, hce, hcv, vx_cls hW₁ hcl, st⟩
theorem vx_runS (S : CallFix p m c cc nL s args Ts own) (hM : vx_Met l y ws rm Pc Qc XC mc ms free) (cw : CallB R s args own index y bytes maxL ret ws rm mc ms n ∧ (Cond.static y).before args s = true) (hp : PreS s H Pc As)
    (hg : g.method = m) (hn : As.length = n) (hsize : g.locals.size = nL) (hstack : g.stack = As.reverse ++ rest) (hW : 2 * g.monitorRoom + (rest.map fun v => v.category).sum ≤ 8) (hdg : decode cc g.pc = .ok (.invokestatic index, 3)) (hf : cells + mc ≤ R.cells ∧ slots + ms ≤ R.slots) :
    vx_Run p l e R s m args below meth c H locs cells slots mc ms g rest (Qc As.toArray) XC free := by
  have hK : vx_Back l R p e below s args y 3 8 (PreOf R mc ms Pc) (PostOf Qc mc ms free) (vx_Post XC mc ms free) := vx_callBack cw.1 hM hp.1
  obtain ⟨⟨-, -, -, -, -, -, hcode, hini, hy, hlen, hl⟩, hstt⟩ := cw
  obtain ⟨hx, hb, hml, ho, -⟩ := S
  intro T hT X
  rcases vx_callS X hx (bytes := bytes) (maxL := maxL) (ret := ret) ho hl hstt hini hcode hy hK hg (hsize.trans hml.symm) (argsL := As) (rest := rest) (fun sig h => hn.trans (hlen sig h)) hstack hW (by rw [hb]; exact hdg)
    (fun vm₁ hW₁ => ⟨hf.1, hf.2, hp.2 (T.setVm vm₁) hT hW₁⟩) with ⟨v, vm₁, ⟨U', l2, c2, s2⟩, hW₁, X', ⟨g', mk, t, L, e1, e2, hq, h1, hL, h2, h3⟩, st⟩ | ⟨q, vm₁, ⟨U', l2, c2, s2⟩, hW₁, X', ⟨g', mk, t, L, E, ce, e1, e2, hq, hce, hcv, hcl, h1, hL, h2, h3⟩, st⟩
  · dsimp only [Pt.U, Pt.locs, Pt.cells, Pt.slots] at X' e1 e2 h1 h2 h3 st
    subst h1; subst h2; subst h3
    exact Or.inl ⟨v, (T.setVm vm₁).calling g' mk As.toArray, t, U', L, hT, X', hL, e1, e2, hq, st⟩
  · dsimp only [Pt.U, Pt.locs, Pt.cells, Pt.slots] at X' e1 e2 h1 h2 h3 st hcl
    subst h1; subst h2; subst h3
    exact Or.inr ⟨q, (T.setVm vm₁).calling g' mk As.toArray, t, U', L, E, ce, hT, X', hL, e1, e2, hq, hce, hcv, vx_cls hW₁ hcl, st⟩
end Runs
section Rows
variable {p : Program} {l : Launch} {e : Env} {R : Room} {s : State} {m : MethodId} {args : Array Value} {below : List Frame} {meth : Method} {c : Code} {H : Heap} {locs : List Loc} {cells slots : Nat} {Q : State → Prop}
variable {mc ms : Nat} {free : Addr → Prop} {A0 A1 : Nat → Prop} {H0 : Heap} {a : Array Value} {pc : Nat} {ls : Array Slot} {st0 rest : List Value}
theorem vx_keep {st₀ t T' : State} {L : List Loc} (h0 : st₀.heap = H) (e1 : T'.heap = t.heap) (hS : va_S A0 H0 H locs) (hA : ∀ q, q < H.size → A1 q → A0 q) (hf : ∀ q, free q → A0 q) (hL : ∀ q ∈ L, free q.base) (hF : va_F A1 st₀ t) :
    H.size ≤ T'.heap.size ∧ (∀ q : Nat, q < H.size → ¬ A1 q → T'.heap[q]? = H[q]?) ∧ va_S A0 H0 T'.heap (locs ++ L) := by
  obtain ⟨hz, hk⟩ := hF
  rw [h0] at hz hk
  exact ⟨by rw [e1]; exact hz, fun q h1 h2 => by rw [e1]; exact hk q h1 h2,
    ⟨Nat.le_trans hS.1 (by rw [e1]; exact hz), fun q h1 h2 => by rw [e1, hk q (Nat.lt_of_lt_of_le h1 hS.1) (fun z => h2 (hA q (Nat.lt_of_lt_of_le h1 hS.1) z))]; exact hS.2.1 q h1 h2, fun q hq => by
      rcases List.mem_append.mp hq with h | h
      · exact hS.2.2 q h
      · exact hf _ (hL q h)⟩⟩
theorem vx_calli {S SX : Type} {post : Int32 → S → Prop} {px : SX → Prop} {B : S → State → Prop} {BX : String → SX → State → Prop} {AX : Nat → Prop} (hr : vx_Run p l e R s m args below meth c H locs cells slots mc ms (F0 m pc ls st0) rest (va_Qi post B A1 a) (vx_X px BX AX) free) (hS : va_S A0 H0 H locs) (hA : ∀ q, q < H.size → A1 q → A0 q) (hf : ∀ q, free q → A0 q) (hAX : ∀ q, q < H.size → AX q → A0 q)
    (kx : ∀ (E : String) (ce : Cell) (q9 : Addr) (u : SX) (t : State) (H1 : Heap) (locs1 : List Loc), t.heap = H1 → s.vm.Alike t.vm → px u → BX E u t → H.size ≤ H1.size → (∀ q : Nat, q < H.size → ¬ AX q → H1[q]? = H[q]?) → va_S A0 H0 H1 locs1 → H1[q9]? = some ce → ce.vm = .none → s.vm.findClass E = some ce.cls → vx_W p l e R s m args below meth c H1 locs1 (cells + mc) (slots + ms) Q (F0 m pc ls rest) q9)
    (kk : ∀ (r : Int32) (u : S) (t : State) (H1 : Heap) (locs1 : List Loc), t.heap = H1 → s.vm.Alike t.vm → post r u → B u t → H.size ≤ H1.size → (∀ q : Nat, q < H.size → ¬ A1 q → H1[q]? = H[q]?) → va_S A0 H0 H1 locs1 → W p l e R s m args below meth c H1 locs1 (cells + mc) (slots + ms) Q (F0 m (pc + 3) ls (.int r :: rest))) : W p l e R s m args below meth c H locs cells slots Q (F0 m pc ls st0) := by
  intro T hT X
  rcases hr T hT X with ⟨v, st₀, t, T', L, h0, X', hL, e1, e2, ⟨⟨r, u, hv, hp, hb⟩, hF⟩, st⟩ | ⟨q, st₀, t, T', L, E, ce, h0, X', hL, e1, e2, ⟨u, hp, hb, hF⟩, hce, hcv, hcl, st⟩
  · cases hv
    obtain ⟨k1, k2, k3⟩ := vx_keep h0 e1 hS hA hf hL hF
    obtain ⟨t2, a1, b1⟩ := kk r u t T'.heap (locs ++ L) e1.symm (by rw [← e2]; exact X'.warmed.alike) hp hb k1 k2 k3 T' rfl X'
    exact ⟨t2, st t2 a1, b1⟩
  · obtain ⟨k1, k2, k3⟩ := vx_keep h0 e1 hS hAX hf hL hF
    obtain ⟨t2, a1, b1⟩ := kx E ce q u t T'.heap (locs ++ L) e1.symm (by rw [← e2]; exact X'.warmed.alike) hp hb k1 k2 k3 (by rw [e1]; exact hce) hcv hcl T' rfl X'
    exact ⟨t2, st.trans a1, b1⟩
theorem vx_calll {S SX : Type} {post : Int64 → S → Prop} {px : SX → Prop} {B : S → State → Prop} {BX : String → SX → State → Prop} {AX : Nat → Prop} (hr : vx_Run p l e R s m args below meth c H locs cells slots mc ms (F0 m pc ls st0) rest (va_Ql post B A1 a) (vx_X px BX AX) free) (hS : va_S A0 H0 H locs) (hA : ∀ q, q < H.size → A1 q → A0 q) (hf : ∀ q, free q → A0 q) (hAX : ∀ q, q < H.size → AX q → A0 q)
    (kx : ∀ (E : String) (ce : Cell) (q9 : Addr) (u : SX) (t : State) (H1 : Heap) (locs1 : List Loc), t.heap = H1 → s.vm.Alike t.vm → px u → BX E u t → H.size ≤ H1.size → (∀ q : Nat, q < H.size → ¬ AX q → H1[q]? = H[q]?) → va_S A0 H0 H1 locs1 → H1[q9]? = some ce → ce.vm = .none → s.vm.findClass E = some ce.cls → vx_W p l e R s m args below meth c H1 locs1 (cells + mc) (slots + ms) Q (F0 m pc ls rest) q9)
    (kk : ∀ (r : Int64) (u : S) (t : State) (H1 : Heap) (locs1 : List Loc), t.heap = H1 → s.vm.Alike t.vm → post r u → B u t → H.size ≤ H1.size → (∀ q : Nat, q < H.size → ¬ A1 q → H1[q]? = H[q]?) → va_S A0 H0 H1 locs1 → W p l e R s m args below meth c H1 locs1 (cells + mc) (slots + ms) Q (F0 m (pc + 3) ls (.long r :: rest))) : W p l e R s m args below meth c H locs cells slots Q (F0 m pc ls st0) := by
  intro T hT X
  rcases hr T hT X with ⟨v, st₀, t, T', L, h0, X', hL, e1, e2, ⟨⟨r, u, hv, hp, hb⟩, hF⟩, st⟩ | ⟨q, st₀, t, T', L, E, ce, h0, X', hL, e1, e2, ⟨u, hp, hb, hF⟩, hce, hcv, hcl, st⟩
  · cases hv
    obtain ⟨k1, k2, k3⟩ := vx_keep h0 e1 hS hA hf hL hF
    obtain ⟨t2, a1, b1⟩ := kk r u t T'.heap (locs ++ L) e1.symm (by rw [← e2]; exact X'.warmed.alike) hp hb k1 k2 k3 T' rfl X'
    exact ⟨t2, st t2 a1, b1⟩
  · obtain ⟨k1, k2, k3⟩ := vx_keep h0 e1 hS hAX hf hL hF
    obtain ⟨t2, a1, b1⟩ := kx E ce q u t T'.heap (locs ++ L) e1.symm (by rw [← e2]; exact X'.warmed.alike) hp hb k1 k2 k3 (by rw [e1]; exact hce) hcv hcl T' rfl X'
    exact ⟨t2, st.trans a1, b1⟩
theorem vx_callf {S SX : Type} {post : UInt32 → S → Prop} {px : SX → Prop} {B : S → State → Prop} {BX : String → SX → State → Prop} {AX : Nat → Prop} (hr : vx_Run p l e R s m args below meth c H locs cells slots mc ms (F0 m pc ls st0) rest (va_Qf post B A1 a) (vx_X px BX AX) free) (hS : va_S A0 H0 H locs) (hA : ∀ q, q < H.size → A1 q → A0 q) (hf : ∀ q, free q → A0 q) (hAX : ∀ q, q < H.size → AX q → A0 q)
    (kx : ∀ (E : String) (ce : Cell) (q9 : Addr) (u : SX) (t : State) (H1 : Heap) (locs1 : List Loc), t.heap = H1 → s.vm.Alike t.vm → px u → BX E u t → H.size ≤ H1.size → (∀ q : Nat, q < H.size → ¬ AX q → H1[q]? = H[q]?) → va_S A0 H0 H1 locs1 → H1[q9]? = some ce → ce.vm = .none → s.vm.findClass E = some ce.cls → vx_W p l e R s m args below meth c H1 locs1 (cells + mc) (slots + ms) Q (F0 m pc ls rest) q9)
    (kk : ∀ (r : UInt32) (u : S) (t : State) (H1 : Heap) (locs1 : List Loc), t.heap = H1 → s.vm.Alike t.vm → post r u → B u t → H.size ≤ H1.size → (∀ q : Nat, q < H.size → ¬ A1 q → H1[q]? = H[q]?) → va_S A0 H0 H1 locs1 → W p l e R s m args below meth c H1 locs1 (cells + mc) (slots + ms) Q (F0 m (pc + 3) ls (.float r :: rest))) : W p l e R s m args below meth c H locs cells slots Q (F0 m pc ls st0) := by
  intro T hT X
  rcases hr T hT X with ⟨v, st₀, t, T', L, h0, X', hL, e1, e2, ⟨⟨r, u, hv, hp, hb⟩, hF⟩, st⟩ | ⟨q, st₀, t, T', L, E, ce, h0, X', hL, e1, e2, ⟨u, hp, hb, hF⟩, hce, hcv, hcl, st⟩
  · cases hv
    obtain ⟨k1, k2, k3⟩ := vx_keep h0 e1 hS hA hf hL hF
    obtain ⟨t2, a1, b1⟩ := kk r u t T'.heap (locs ++ L) e1.symm (by rw [← e2]; exact X'.warmed.alike) hp hb k1 k2 k3 T' rfl X'
    exact ⟨t2, st t2 a1, b1⟩
  · obtain ⟨k1, k2, k3⟩ := vx_keep h0 e1 hS hAX hf hL hF
    obtain ⟨t2, a1, b1⟩ := kx E ce q u t T'.heap (locs ++ L) e1.symm (by rw [← e2]; exact X'.warmed.alike) hp hb k1 k2 k3 (by rw [e1]; exact hce) hcv hcl T' rfl X'
    exact ⟨t2, st.trans a1, b1⟩
theorem vx_calld {S SX : Type} {post : UInt64 → S → Prop} {px : SX → Prop} {B : S → State → Prop} {BX : String → SX → State → Prop} {AX : Nat → Prop} (hr : vx_Run p l e R s m args below meth c H locs cells slots mc ms (F0 m pc ls st0) rest (va_Qd post B A1 a) (vx_X px BX AX) free) (hS : va_S A0 H0 H locs) (hA : ∀ q, q < H.size → A1 q → A0 q) (hf : ∀ q, free q → A0 q) (hAX : ∀ q, q < H.size → AX q → A0 q)
    (kx : ∀ (E : String) (ce : Cell) (q9 : Addr) (u : SX) (t : State) (H1 : Heap) (locs1 : List Loc), t.heap = H1 → s.vm.Alike t.vm → px u → BX E u t → H.size ≤ H1.size → (∀ q : Nat, q < H.size → ¬ AX q → H1[q]? = H[q]?) → va_S A0 H0 H1 locs1 → H1[q9]? = some ce → ce.vm = .none → s.vm.findClass E = some ce.cls → vx_W p l e R s m args below meth c H1 locs1 (cells + mc) (slots + ms) Q (F0 m pc ls rest) q9)
    (kk : ∀ (r : UInt64) (u : S) (t : State) (H1 : Heap) (locs1 : List Loc), t.heap = H1 → s.vm.Alike t.vm → post r u → B u t → H.size ≤ H1.size → (∀ q : Nat, q < H.size → ¬ A1 q → H1[q]? = H[q]?) → va_S A0 H0 H1 locs1 → W p l e R s m args below meth c H1 locs1 (cells + mc) (slots + ms) Q (F0 m (pc + 3) ls (.double r :: rest))) : W p l e R s m args below meth c H locs cells slots Q (F0 m pc ls st0) := by
  intro T hT X
  rcases hr T hT X with ⟨v, st₀, t, T', L, h0, X', hL, e1, e2, ⟨⟨r, u, hv, hp, hb⟩, hF⟩, st⟩ | ⟨q, st₀, t, T', L, E, ce, h0, X', hL, e1, e2, ⟨u, hp, hb, hF⟩, hce, hcv, hcl, st⟩
  · cases hv
    obtain ⟨k1, k2, k3⟩ := vx_keep h0 e1 hS hA hf hL hF
    obtain ⟨t2, a1, b1⟩ := kk r u t T'.heap (locs ++ L) e1.symm (by rw [← e2]; exact X'.warmed.alike) hp hb k1 k2 k3 T' rfl X'
    exact ⟨t2, st t2 a1, b1⟩
  · obtain ⟨k1, k2, k3⟩ := vx_keep h0 e1 hS hAX hf hL hF
    obtain ⟨t2, a1, b1⟩ := kx E ce q u t T'.heap (locs ++ L) e1.symm (by rw [← e2]; exact X'.warmed.alike) hp hb k1 k2 k3 (by rw [e1]; exact hce) hcv hcl T' rfl X'
    exact ⟨t2, st.trans a1, b1⟩
theorem vx_callv {S SX : Type} {post : S → Prop} {px : SX → Prop} {B : S → State → Prop} {BX : String → SX → State → Prop} {AX : Nat → Prop} (hr : vx_Run p l e R s m args below meth c H locs cells slots mc ms (F0 m pc ls st0) rest (va_Qv post B A1 a) (vx_X px BX AX) free) (hS : va_S A0 H0 H locs) (hA : ∀ q, q < H.size → A1 q → A0 q) (hf : ∀ q, free q → A0 q) (hAX : ∀ q, q < H.size → AX q → A0 q)
    (kx : ∀ (E : String) (ce : Cell) (q9 : Addr) (u : SX) (t : State) (H1 : Heap) (locs1 : List Loc), t.heap = H1 → s.vm.Alike t.vm → px u → BX E u t → H.size ≤ H1.size → (∀ q : Nat, q < H.size → ¬ AX q → H1[q]? = H[q]?) → va_S A0 H0 H1 locs1 → H1[q9]? = some ce → ce.vm = .none → s.vm.findClass E = some ce.cls → vx_W p l e R s m args below meth c H1 locs1 (cells + mc) (slots + ms) Q (F0 m pc ls rest) q9)
    (kk : ∀ (u : S) (t : State) (H1 : Heap) (locs1 : List Loc), t.heap = H1 → s.vm.Alike t.vm → post u → B u t → H.size ≤ H1.size → (∀ q : Nat, q < H.size → ¬ A1 q → H1[q]? = H[q]?) → va_S A0 H0 H1 locs1 → W p l e R s m args below meth c H1 locs1 (cells + mc) (slots + ms) Q (F0 m (pc + 3) ls (rest))) : W p l e R s m args below meth c H locs cells slots Q (F0 m pc ls st0) := by
  intro T hT X
  rcases hr T hT X with ⟨v, st₀, t, T', L, h0, X', hL, e1, e2, ⟨⟨u, hv, hp, hb⟩, hF⟩, st⟩ | ⟨q, st₀, t, T', L, E, ce, h0, X', hL, e1, e2, ⟨u, hp, hb, hF⟩, hce, hcv, hcl, st⟩
  · cases hv
    obtain ⟨k1, k2, k3⟩ := vx_keep h0 e1 hS hA hf hL hF
    obtain ⟨t2, a1, b1⟩ := kk u t T'.heap (locs ++ L) e1.symm (by rw [← e2]; exact X'.warmed.alike) hp hb k1 k2 k3 T' rfl X'
    exact ⟨t2, st t2 a1, b1⟩
  · obtain ⟨k1, k2, k3⟩ := vx_keep h0 e1 hS hAX hf hL hF
    obtain ⟨t2, a1, b1⟩ := kx E ce q u t T'.heap (locs ++ L) e1.symm (by rw [← e2]; exact X'.warmed.alike) hp hb k1 k2 k3 (by rw [e1]; exact hce) hcv hcl T' rfl X'
    exact ⟨t2, st.trans a1, b1⟩
/-- caught by the row x of this method's table; the rows ahead don't take it -/
theorem vx_catch {own name : String} {E : String} {ce : Cell} {q : Addr} (hown : s.vm.findClass own = some m.cls) (pre : List ExceptionTableEntry) (x : ExceptionTableEntry) (suf : List ExceptionTableEntry) (hsplit : c.exceptionTable.toList = pre ++ x :: suf)
    (hpass : ∀ z ∈ pre, covers z pc = false ∨ (z.catchType ≠ 0 ∧ ∃ nm : String, (Cond.classLink own z.catchType nm).before args s = true ∧ va_Nc E nm s)) (hx : covers x pc = true) (h0 : x.catchType ≠ 0)
    (hlink : (Cond.classLink own x.catchType name).before args s = true) (hcast : (Cond.castable E name).before args s = true) (hcell : H[q]? = some ce) (hv : ce.vm = .none) (hcl : s.vm.findClass E = some ce.cls)
    (kk : W p l e R s m args below meth c H locs cells slots Q (F0 m x.handlerPc ls [.ref q])) : vx_W p l e R s m args below meth c H locs cells slots Q (F0 m pc ls rest) q := by
  intro T hT X
  have hpl : e.platform.magicAccessors = ({} : Platform).magicAccessors := by rw [X.admits.platform]
  obtain ⟨c3, c4, hc3, hc4, hasg⟩ := Cond.castable_spec hcast
  cases Option.some.inj (hc3.symm.trans hcl)
  obtain ⟨c5, hc5, hcl5⟩ := Cond.classLink_spec hown hlink e.platform hpl
  cases Option.some.inj (hc4.symm.trans hc5)
  obtain ⟨vm', X', st⟩ := X.thenCaughtThrough q (g := F0 m pc ls rest) rfl (Steps.refl _) (by rw [hT]; exact hcell) (by rw [hv]; rfl) (by obtain ⟨k9, h9, -⟩ := Vm.findClass_spec hcl; exact ⟨k9, h9⟩) pre x suf hsplit
    (fun z hz => by
      rcases hpass z hz with h | ⟨hz0, nm, hl1, hn1⟩
      · exact Or.inl h
      · obtain ⟨c6, hc6, hcl6⟩ := Cond.classLink_spec hown hl1 e.platform hpl
        obtain ⟨a8, b8, h1, h2, h3⟩ := hn1
        cases Option.some.inj (h1.symm.trans hcl)
        cases Option.some.inj (h2.symm.trans hc6)
        exact Or.inr ⟨hz0, _, hcl6, h3⟩) hx (Or.inr ⟨h0, c4, hcl5, hasg⟩)
  obtain ⟨t, a1, b1⟩ := kk (T.setVm vm') hT X'
  exact ⟨t, st.trans a1, b1⟩
end Rows
section Ends
variable {p : Program} {l : Launch} {e : Env} {R : Room} {s : State} {m : MethodId} {args : Array Value} {below : List Frame} {meth : Method} {c : Code} {H : Heap} {locs : List Loc} {cells slots : Nat} {Q : State → Prop}
variable {mc ms : Nat} {free : Addr → Prop} {A0 A1 : Nat → Prop} {H0 : Heap} {a : Array Value} {ls : Array Slot} {st0 rest : List Value}
variable {Qc : Array Value → State → Outcome → State → Prop} {XC : String → State → State → Prop}
/-- what a body that may throw owes at its end -/
def vx_MQ (below : List Frame) (Qc : Array Value → State → Outcome → State → Prop) (XC : String → State → State → Prop) (a : Array Value) (s : State) (mc ms : Nat) (free : Addr → Prop) : State → Prop := fun t =>
  ∃ o, t.status = .running ∧ Ended t below o ∧ vx_Q Qc XC mc ms free a s o t
theorem vx_ret {g : JFrame} {mc ms : Nat} (k : W p l e R s m args below meth c H locs cells slots (MQ below Qc args s mc ms free) g) : W p l e R s m args below meth c H locs cells slots (vx_MQ below Qc XC args s mc ms free) g := by
  intro T hT X
  obtain ⟨t, a1, o, b1, b2, b3, b4⟩ := k T hT X
  exact ⟨t, a1, o, b1, b2, Or.inl ⟨b3, b4⟩⟩
/-- not caught here: it goes on to the caller -/
theorem vx_widen {g : JFrame} {q : Addr} {k n : Nat} (h1 : cells ≤ k) (h2 : slots ≤ n) (kk : vx_W p l e R s m args below meth c H locs k n Q g q) : vx_W p l e R s m args below meth c H locs cells slots Q g q := fun T hT X => kk T hT (stand_widen X h1 h2)
theorem vx_out {pc : Nat} {E : String} {ce : Cell} {q : Addr} {mc ms : Nat} (hout : ∀ x ∈ c.exceptionTable.toList, covers x pc = false) (hlocks : meth.locks = false) (hcell : H[q]? = some ce) (hv : ce.vm = .none) (hcl : s.vm.findClass E = some ce.cls)
    (hx : ∀ t : State, t.heap = H → s.vm.Alike t.vm → XC E s t) (hf : ∀ z ∈ locs, free z.base) (hc : cells ≤ mc) (hs : slots ≤ ms) :
    vx_W p l e R s m args below meth c H locs cells slots (vx_MQ below Qc XC args s mc ms free) (F0 m pc ls rest) q := by
  intro T hT X
  obtain ⟨st1, hrun, hend, hW, hsm⟩ := X.leaveThrown q (g := F0 m pc ls rest) rfl rfl rfl hout hlocks
  have hcell9 : (T.setFrames (.throwing q :: below)).heap[q]? = some ce := by
    show T.heap[q]? = some ce
    rw [hT]; exact hcell
  exact ⟨_, st1, .threw q, hrun, hend, Or.inr ⟨q, rfl, E, ce, locs, hx _ hT hW.alike, hcell9, hv, hcl, hW, hsm.mono hc hs, hf⟩⟩
theorem vx_frame {U : State} {k n : Nat} (h : s.sameButNew ({ U with vm := s.vm } : State) locs k n) : s.heap.size ≤ U.heap.size ∧ ∀ q : Nat, q < s.heap.size → (∀ z ∈ locs, z.base ≠ q) → U.heap[q]? = s.heap[q]? := by
  obtain ⟨-, h2, -, -, -, h6⟩ := h
  refine ⟨h2, fun q hq hz => ?_⟩
  obtain ⟨c9, e1, e2, e3, e4⟩ := h6 q _ (Array.getElem?_eq_getElem hq)
  have hs : c9.slots = (s.heap[q]).slots := Array.ext_getElem? fun i => e4 i fun hm => hz _ hm rfl
  have h9 : c9 = s.heap[q] := by
    rw [hs] at e2
    exact e2
  have e5 : U.heap[q]? = some c9 := e1
  rw [e5, h9, Array.getElem?_eq_getElem hq]
/-- the words of a throw but the four that speak of the heap -/
def vx_no (w : Cond) : Bool := decide (w ≠ .isRef (.static Bundle.tN "UNASSIGNED_STACK" Bundle.steD)) && decide (w ≠ .isRef (.static Bundle.tN "SUPPRESSED_SENTINEL" Bundle.listD)) && decide (w ≠ .laysStatic Bundle.tN "UNASSIGNED_STACK" Bundle.steD) && decide (w ≠ .laysStatic Bundle.tN "SUPPRESSED_SENTINEL" Bundle.listD)
def vx_at0 (own : String) (ic : Nat) (X : String) (names : List String) : List Cond := (Bundle.ownAtoms0 own ic X names).filter vx_no
def vx_atS (own : String) (ic : Nat) (X : String) (names : List String) : List Cond := (Bundle.ownAtoms own ic X names).filter vx_no
/-- a word that the tables alone decide, or a good one -/
def vx_ot (w : Cond) : Bool := w.onTables || goodWord w
theorem vx_ot_at {args a' : Array Value} {s U : State} {w : Cond} (hW : s.WarmedH U.vm) (hvm : s.vm = U.vm) (hg : vx_ot w = true) (h : w.before args s = true) : w.before a' U = true := by
  simp only [vx_ot, Bool.or_eq_true] at hg
  rcases hg with hg | hg
  · exact va_tabs hg hvm h
  · exact word_at hW (good_of_word hg) h
/-- a list's words: the good ones out of the method's own list, the others by premises of their own -/
theorem vx_hat {args : Array Value} {s : State} {L B : List Cond} (h1 : ∀ w ∈ L.filter goodWord, w.before args s = true) (h2 : ∀ w ∈ L.filter (fun w => !goodWord w), w ∈ B) (h3 : ∀ w ∈ B, w.before args s = true) : ∀ w ∈ L, w.before args s = true := by
  intro w hw
  by_cases g : goodWord w = true
  · exact h1 w (List.mem_filter.mpr ⟨hw, g⟩)
  · refine h3 w (h2 w (List.mem_filter.mpr ⟨hw, ?_⟩))
    show (!goodWord w) = true
    cases hgw : goodWord w
    · rfl
    · exact absurd hgw g
theorem vx_c {args : Array Value} {s : State} {w : Cond} {B : List Cond} (h : w.before args s = true) (t : ∀ w ∈ B, w.before args s = true) : ∀ w' ∈ w :: B, w'.before args s = true := fun w' h' => (List.mem_cons.mp h').elim (fun e => by rw [e]; exact h) (t w')
theorem vx_n {args : Array Value} {s : State} : ∀ w ∈ ([] : List Cond), w.before args s = true := fun _ h => nomatch h
theorem vx_own {args : Array Value} {s : State} {L : List Cond} (h1 : ∀ w ∈ L.filter vx_no, w.before args s = true)
    (hU : (Cond.isRef (.static Bundle.tN "UNASSIGNED_STACK" Bundle.steD)).before args s = true) (hN : (Cond.isRef (.static Bundle.tN "SUPPRESSED_SENTINEL" Bundle.listD)).before args s = true)
    (lU : (Cond.laysStatic Bundle.tN "UNASSIGNED_STACK" Bundle.steD).before args s = true) (lN : (Cond.laysStatic Bundle.tN "SUPPRESSED_SENTINEL" Bundle.listD).before args s = true) : ∀ w ∈ L, w.before args s = true := by
  intro w hw
  by_cases e1 : w = .isRef (.static Bundle.tN "UNASSIGNED_STACK" Bundle.steD)
  · rw [e1]; exact hU
  · by_cases e2 : w = .isRef (.static Bundle.tN "SUPPRESSED_SENTINEL" Bundle.listD)
    · rw [e2]; exact hN
    · by_cases e3 : w = .laysStatic Bundle.tN "UNASSIGNED_STACK" Bundle.steD
      · rw [e3]; exact lU
      · by_cases e4 : w = .laysStatic Bundle.tN "SUPPRESSED_SENTINEL" Bundle.listD
        · rw [e4]; exact lN
        · exact h1 w (List.mem_filter.mpr ⟨hw, by unfold vx_no; rw [decide_eq_true e1, decide_eq_true e2, decide_eq_true e3, decide_eq_true e4]; rfl⟩)
/-- where a static field lies, its class's statics cell in H -/
def vx_L (C n d : String) (A : Nat → Prop) (U : State) (H : Heap) : Prop := ∃ (c : ClassId) (k : Class) (i : Nat) (f : Field) (a : Nat) (cell : Cell), U.vm.findClass C = some c ∧ U.fieldFound? C n d = some (c, k, i, f) ∧ f.isStatic = true ∧ k.statics = some a ∧ H[a]? = some cell ∧ cell.vm.isStatics = true ∧ cell.cls = c ∧ f.slot < cell.slots.size ∧ k.staticTypes[f.slot]? = some f.type ∧ ¬ A a
theorem vx_L.moved {C n d : String} {A : Nat → Prop} {u U : State} {H : Heap} (hvm : u.vm.Alike U.vm) (h : vx_L C n d A u H) : vx_L C n d A U H := by
  obtain ⟨c, k, i, f, a, cell, h1, h2, h3, h4, h5, h6, h7, h8, h9, h10⟩ := h
  obtain ⟨k', hi', he⟩ := State.fieldFound?_setVm hvm h2
  exact ⟨c, k', i, f, a, cell, by rw [hvm.findClass]; exact h1, hi', h3, by rw [he]; exact h4, h5, h6, h7, h8, by rw [he]; exact h9, h10⟩
theorem vx_L.kept {C n d : String} {A : Nat → Prop} {U : State} {H H1 : Heap} (h : vx_L C n d A U H) (hq : ∀ a : Nat, a < H.size → ¬ A a → H1[a]? = H[a]?) : vx_L C n d A U H1 := by
  obtain ⟨c, k, i, f, a, cell, h1, h2, h3, h4, h5, h6, h7, h8, h9, h10⟩ := h
  exact ⟨c, k, i, f, a, cell, h1, h2, h3, h4, by rw [hq a (Array.getElem?_eq_some_iff.mp h5).1 h10]; exact h5, h6, h7, h8, h9, h10⟩
theorem vx_L.narrow {C n d : String} {A B : Nat → Prop} {U : State} {H : Heap} (h : vx_L C n d A U H) (hAB : ∀ q, B q → A q) : vx_L C n d B U H := by
  obtain ⟨c, k, i, f, a, cell, h1, h2, h3, h4, h5, h6, h7, h8, h9, h10⟩ := h
  exact ⟨c, k, i, f, a, cell, h1, h2, h3, h4, h5, h6, h7, h8, h9, fun z => h10 (hAB _ z)⟩
theorem vx_L.word {C n d : String} {A : Nat → Prop} {s : State} {args : Array Value} (h : vx_L C n d A s s.heap) : (Cond.laysStatic C n d).before args s = true := by
  obtain ⟨c, k, i, f, a, cell, h1, h2, h3, h4, h5, h6, h7, h8, h9, -⟩ := h
  show (Cond.laysStatic C n d).holds args s none s [] = true
  exact Cond.laysStatic_of h1 h2 h3 h4 h5 h6 h7 h8 h9
/-- .. and what it holds: null or some reference -/
def vx_Zq (C n d : String) (A : Nat → Prop) (U : State) (H : Heap) : Prop := va_Zq C n d A U H ∧ vx_L C n d A U H
theorem vx_Zq.moved {C n d : String} {A : Nat → Prop} {u U : State} {H : Heap} (hvm : u.vm.Alike U.vm) (h : vx_Zq C n d A u H) : vx_Zq C n d A U H := ⟨va_Zq.moved hvm h.1, vx_L.moved hvm h.2⟩
theorem vx_Zq.kept {C n d : String} {A : Nat → Prop} {U : State} {H H1 : Heap} (h : vx_Zq C n d A U H) (hq : ∀ a : Nat, a < H.size → ¬ A a → H1[a]? = H[a]?) : vx_Zq C n d A U H1 := ⟨va_Zq.kept h.1 hq, vx_L.kept h.2 hq⟩
theorem vx_Zq.narrow {C n d : String} {A B : Nat → Prop} {U : State} {H : Heap} (h : vx_Zq C n d A U H) (hAB : ∀ q, B q → A q) : vx_Zq C n d B U H := ⟨va_Zq.narrow h.1 hAB, vx_L.narrow h.2 hAB⟩
theorem vx_Zqof {args : Array Value} {s : State} {C n d : String} {A : Nat → Prop} (hl : (Cond.laysStatic C n d).before args s = true) (hini : (Cond.initialized C).before args s = true) (h : (Cond.isRef (.static C n d)).before args s = true) (hA : ∀ a : Nat, a < s.heap.size → ¬ A a) : vx_Zq C n d A s s.heap := by
  refine ⟨va_Zqof hl hini h hA, ?_⟩
  obtain ⟨c, k, i, f, a, cell, h1, h2, h3, h4, h5, h6, h7, h8, h9⟩ := Cond.laysStatic_spec hl
  exact ⟨c, k, i, f, a, cell, h1, h2, h3, h4, h5, h6, h7, h8, h9, hA a (Array.getElem?_eq_some_iff.mp h5).1⟩
theorem vx_isRef {C n d : String} {v : Value} {A : Nat → Prop} {s : State} {args : Array Value} (h : va_Z C n d v A s s.heap) (hv : v.isRef = true) : (Cond.isRef (.static C n d)).before args s = true := by
  obtain ⟨cf, kf, fi, f, a, cell, h1, h2, h3, h4, h5, h6, h7, -⟩ := h
  have he : (Term.static C n d).eval args s none [] s = some v := by
    simp [Term.eval, State.fieldNamed?, h1, h2, h4, h5, h6, h7]
  simp only [Cond.before, Cond.holds, Cond.value, he]
  cases v <;> simp_all [Value.isRef]
theorem vx_isRefq {C n d : String} {A : Nat → Prop} {s : State} {args : Array Value} (h : va_Zq C n d A s s.heap) : (Cond.isRef (.static C n d)).before args s = true := by
  rcases h with h | ⟨t, h⟩
  · exact vx_isRef h rfl
  · exact vx_isRef h rfl
/-- the same frame, seen from here: as if the method were called anew in this heap -/
theorem vx_rebase {T : State} (X : Stand p l e R s m args below meth c T locs cells slots) {R' : Room} (hf : R'.frames ≤ R.frames) (hl : R'.locals ≤ R.locals) (hc : cells + R'.cells ≤ R.cells) (hs : slots + R'.slots ≤ R.slots) :
    Stand p l e R' ((T.setVm s.vm).setFrames (.invoking m args :: below)) m args below meth c T [] 0 0 := by
  have htop : (T.setVm s.vm).topJava?.isSome := X.here.top
  have hF : ((T.setVm s.vm).setFrames (.invoking m args :: below)).frames = .invoking m args :: below := State.frames_setFrames _ (State.cur_lt_of_top htop)
  obtain ⟨g₀, hg0⟩ := Option.isSome_iff_exists.mp htop
  obtain ⟨r, hr⟩ := State.topJava?_eq_some.mp hg0
  have hl9 : e.platform.stackLimits (T.setVm s.vm).me = e.platform.stackLimits s.me := X.limits
  have hb9 : (T.setVm s.vm).me.stackBytes = s.me.stackBytes := X.bytes
  refine ⟨X.admits, X.cas, X.clock, hF, ?_, X.hears, X.method, X.code, X.here, X.tail, X.warmed, ?_, ?_, ?_⟩
  · have h := X.room
    have hU : ((T.setVm s.vm).setFrames (.invoking m args :: below)).localsInUse = s.localsInUse := by
      rw [State.localsInUse_invoking hF (meth := meth) (c := c) X.method X.code, State.localsInUse_invoking X.frames X.method X.code]
    simp only [State.hasRoom, Bool.and_eq_true, decide_eq_true_eq] at h ⊢
    obtain ⟨⟨⟨⟨h1, h2, h3, h4, h5, h6⟩, h7⟩, h8⟩, h9⟩ := h
    rw [X.frames, List.length_cons] at h2 h3
    have q1 := X.heapSize
    have q2 := X.used
    simp only [hF, hU, List.length_cons, State.stackLimits_setFrames, State.stackBytes_setFrames, hl9, hb9]
    refine ⟨⟨⟨⟨by omega, by omega, by omega, by omega, by omega, h6⟩, ?_⟩, ?_⟩, X.book⟩
    · show T.heap.size + R'.cells ≤ e.platform.maxCells
      omega
    · show T.slotsUsed + R'.slots ≤ e.platform.maxSlots
      omega
  · rw [State.stackLimits_setFrames]; rfl
  · rw [State.stackBytes_setFrames]; rfl
  · refine ⟨?_, Nat.le_refl _, Nat.le_refl _, ?_, ?_, fun a c9 h9 => ⟨c9, h9, rfl, rfl, fun _ _ => rfl⟩⟩
    · obtain ⟨t, ht, -⟩ := State.frames_cons hr
      show T.setVm s.vm = { ((T.setVm s.vm).setFrames (.invoking m args :: below)).setFrames (T.setVm s.vm).frames with heap := T.heap, slotsUsed := T.slotsUsed }
      rw [State.setFrames_setFrames, State.setFrames_self ht]
      rfl
    · show T.slotsUsed = T.slotsUsed + ((T.heap.toList.drop T.heap.size).map (·.slots.size)).sum
      rw [List.drop_eq_nil_of_le (Nat.le_of_eq Array.length_toList)]
      rfl
    · show ((T.heap.toList.drop T.heap.size).map (·.slots.size)).sum ≤ 0
      rw [List.drop_eq_nil_of_le (Nat.le_of_eq Array.length_toList)]
      exact Nat.le_refl _
/-- 'throw new E()': new; dup; invokespecial; athrow -/
theorem vx_throw0 {cc : ByteArray} {pc : Nat} (hexec : p.tables.exec = Jvm.exec) (hb : c.code = cc) (hl : l.stackTraces = false) {own cls : String} {names : List String} {ik ic mc ms : Nat} {A : Nat → Prop}
    (hown : s.vm.findClass own = some m.cls) (hcls : Bundle.fit cls = true) (hnames : ∀ n ∈ names, Bundle.fit n = true)
    (hk : (Cond.classLink own ik cls).before args s = true) (hini : (Cond.initialized cls).before args s = true) (hat : ∀ w ∈ vx_at0 own ic cls names, w.before args s = true)
    (hgood : ∀ w ∈ Cond.classLink own ik cls :: Cond.initialized cls :: vx_at0 own ic cls names, vx_ot w = true)
    (hU : vx_Zq Bundle.tN "UNASSIGNED_STACK" Bundle.steD A s s.heap) (hN : vx_Zq Bundle.tN "SUPPRESSED_SENTINEL" Bundle.listD A s s.heap) (hS : va_S A s.heap H locs) (hsize : ls.size = c.maxLocals)
    (d0 : decode cc pc = .ok (.new ik, 3)) (d3 : decode cc (pc + 3) = .ok (.dup, 1)) (d4 : decode cc (pc + 4) = .ok (.invokespecial ic, 3)) (d7 : decode cc (pc + 7) = .ok (.athrow, 1))
    (hout : ∀ x ∈ c.exceptionTable.toList, covers x (pc + 7) = false)
    (hRframes : names.length + 3 < R.frames) (hRlocals : (rest.map fun v => v.category).sum + (13 * (names.length + 1) + 42) ≤ R.locals) (hRcells : cells + 1 ≤ R.cells) (hRslots : slots + 6 ≤ R.slots) (hlocks : meth.locks = false)
    (hx : ∀ t : State, s.vm.Alike t.vm → H.size ≤ t.heap.size → (∀ q : Nat, q < H.size → t.heap[q]? = H[q]?) → XC cls s t)
    (hf : ∀ z ∈ locs, free z.base) (hc : cells + 1 ≤ mc) (hs : slots + 6 ≤ ms) :
    W p l e R s m args below meth c H locs cells slots (vx_MQ below Qc XC args s mc ms free) (F0 m pc ls rest) := by
  intro T hT X
  have htr : e.platform.stackTraces = false := (show e.platform.stackTraces = l.stackTraces by rw [X.admits.platform]).trans hl
  have Y := vx_rebase X (R' := { frames := R.frames, locals := R.locals, cells := 1, slots := 6 }) (Nat.le_refl _) (Nat.le_refl _) hRcells hRslots
  obtain ⟨s', hA⟩ : ∃ z, z = (T.setVm s.vm).setFrames (.invoking m args :: below) := ⟨_, rfl⟩
  rw [← hA] at Y
  have hvm : s'.vm = s.vm := by rw [hA]; rfl
  have hhp : s'.heap = H := by rw [hA]; exact hT
  have hW0 : s.WarmedH s'.vm := by rw [hvm]; exact State.WarmedH.refl s
  have hat' : ∀ w ∈ vx_at0 own ic cls names, w.before args s' = true := fun w hw => vx_ot_at hW0 hvm.symm (hgood w (List.mem_cons_of_mem _ (List.mem_cons_of_mem _ hw))) (hat w hw)
  have hk' : (Cond.classLink own ik cls).before args s' = true := vx_ot_at hW0 hvm.symm (hgood _ List.mem_cons_self) hk
  have hini' : (Cond.initialized cls).before args s' = true := vx_ot_at hW0 hvm.symm (hgood _ (List.mem_cons_of_mem _ List.mem_cons_self)) hini
  have hU' : vx_Zq Bundle.tN "UNASSIGNED_STACK" Bundle.steD A s' s'.heap := by rw [hhp]; exact vx_Zq.moved hW0.alike (hU.kept hS.2.1)
  have hN' : vx_Zq Bundle.tN "SUPPRESSED_SENTINEL" Bundle.listD A s' s'.heap := by rw [hhp]; exact vx_Zq.moved hW0.alike (hN.kept hS.2.1)
  have h : ∀ w ∈ Bundle.ownAtoms0 own ic cls names, w.before args s' = true := vx_own hat' (vx_isRefq hU'.1) (vx_isRefq hN'.1) hU'.2.word hN'.2.word
  have hown' : s'.vm.findClass own = some m.cls := by rw [hvm]; exact hown
  have hins : (Cond.instantiable cls 6).before args s' = true := h _ (by simp [Bundle.ownAtoms0])
  obtain ⟨vm₁, cX, kX, hfX, hkX, -, -, X₁, st1⟩ := Y.newCold hexec (own := own) (C := cls) (index := ik) (n := 6) hown' hk' hins hini'
    (g := F0 m pc ls rest) rfl (by rw [hb]; exact d0) (Nat.le_refl _) (Nat.le_refl _)
  generalize hT1 : (T.setVm vm₁).pushCell { cls := cX, slots := kX.instanceTypes.map defaultValue, vm := .none } = T1 at X₁ st1
  have hcat : (Value.ref T.heap.size).category = 1 := rfl
  have hcellA : T1.heap[T.heap.size]? = some (freshCell cX kX) := by rw [← hT1]; exact State.heap_pushCell_size _ _
  have d3' : decode c.code (pc + 3) = .ok (.dup, 1) := by rw [hb]; exact d3
  obtain ⟨U, hsteps, hrun, hend, hW, hsame, ce, hce, hO⟩ := X₁.ctorThrow0 hexec htr (own := own) (cls := cls) (names := names) (ic := ic) hown' hcls hnames h (fun x hx => nomatch hx) hfX hkX hcellA (by rw [hhp, hT]; exact Nat.le_refl _)
    (g := { method := m, pc := pc + 4, locals := ls, stack := .ref T.heap.size :: .ref T.heap.size :: rest, locked := none }) rfl hsize rfl rfl (rest := rest) rfl
    (by rw [hb]; exact d4) (by rw [hb]; exact d7) hout hRframes (by simp only [List.map_cons, List.sum_cons, hcat]; omega) hlocks
  obtain ⟨f1, f2⟩ := vx_frame hsame
  rw [hhp] at f1 f2
  have hWs : s.WarmedH U.vm := State.WarmedH.trans hW0 hW
  have hcl : s.vm.findClass cls = some ce.cls := by
    have h9 := hO.cls
    rw [hvm] at h9
    exact h9
  have hall : s.sameButNew ({ U with vm := s.vm } : State) locs mc ms := by
    subst hA
    obtain ⟨e1, e2⟩ := hsame
    rw [State.setFrames_setFrames] at e1
    have h2 : (T.setVm s.vm).sameButNew ({ U with vm := s.vm } : State) [] (0 + 1) (0 + 6) := ⟨e1, e2⟩
    have h3 := X.same.trans h2
    rw [List.append_nil] at h3
    exact h3.mono hc hs
  refine ⟨U, ?_, .threw T.heap.size, hrun, hend, Or.inr ⟨T.heap.size, rfl, cls, ce, locs, hx U hWs.alike f1 (fun q hq => f2 q hq (fun z hz => nomatch hz)), hce, hO.vm, hcl, hWs, hall, hf⟩⟩
  refine st1 _ ?_
  show Steps p.tables e below (T1.setTop { method := m, pc := pc + 3, locals := ls, stack := .ref T.heap.size :: rest, locked := none }) _
  jvm_step X₁.here [X₁.here.top, hexec, d3', Value.category]
  exact hsteps
/-- 'throw new E("text")': new; dup; ldc; invokespecial; athrow -/
theorem vx_throwS {cc : ByteArray} {pc : Nat} (hexec : p.tables.exec = Jvm.exec) (hb : c.code = cc) (hl : l.stackTraces = false) {own cls text : String} {names : List String} {ik is ic mc ms sa : Nat} {A : Nat → Prop}
    (hown : s.vm.findClass own = some m.cls) (hcls : Bundle.fit cls = true) (hnames : ∀ n ∈ names, Bundle.fit n = true)
    (hk : (Cond.classLink own ik cls).before args s = true) (hini : (Cond.initialized cls).before args s = true) (hstr : vk_R own is text sa s) (hat : ∀ w ∈ vx_atS own ic cls names, w.before args s = true)
    (hgood : ∀ w ∈ Cond.classLink own ik cls :: Cond.initialized cls :: vx_atS own ic cls names, vx_ot w = true)
    (hU : vx_Zq Bundle.tN "UNASSIGNED_STACK" Bundle.steD A s s.heap) (hN : vx_Zq Bundle.tN "SUPPRESSED_SENTINEL" Bundle.listD A s s.heap) (hS : va_S A s.heap H locs) (hsize : ls.size = c.maxLocals)
    (d0 : decode cc pc = .ok (.new ik, 3)) (d3 : decode cc (pc + 3) = .ok (.dup, 1)) (d4 : decode cc (pc + 4) = .ok (.ldc is, 2)) (d6 : decode cc (pc + 6) = .ok (.invokespecial ic, 3)) (d9 : decode cc (pc + 9) = .ok (.athrow, 1))
    (hout : ∀ x ∈ c.exceptionTable.toList, covers x (pc + 9) = false)
    (hRframes : names.length + 3 < R.frames) (hRlocals : (rest.map fun v => v.category).sum + (13 * (names.length + 1) + 43) ≤ R.locals) (hRcells : cells + 1 ≤ R.cells) (hRslots : slots + 6 ≤ R.slots) (hlocks : meth.locks = false)
    (hx : ∀ t : State, s.vm.Alike t.vm → H.size ≤ t.heap.size → (∀ q : Nat, q < H.size → t.heap[q]? = H[q]?) → XC cls s t)
    (hf : ∀ z ∈ locs, free z.base) (hc : cells + 1 ≤ mc) (hs : slots + 6 ≤ ms) :
    W p l e R s m args below meth c H locs cells slots (vx_MQ below Qc XC args s mc ms free) (F0 m pc ls rest) := by
  intro T hT X
  have htr : e.platform.stackTraces = false := (show e.platform.stackTraces = l.stackTraces by rw [X.admits.platform]).trans hl
  have Y := vx_rebase X (R' := { frames := R.frames, locals := R.locals, cells := 1, slots := 6 }) (Nat.le_refl _) (Nat.le_refl _) hRcells hRslots
  obtain ⟨s', hA⟩ : ∃ z, z = (T.setVm s.vm).setFrames (.invoking m args :: below) := ⟨_, rfl⟩
  rw [← hA] at Y
  have hvm : s'.vm = s.vm := by rw [hA]; rfl
  have hhp : s'.heap = H := by rw [hA]; exact hT
  have hW0 : s.WarmedH s'.vm := by rw [hvm]; exact State.WarmedH.refl s
  have hat' : ∀ w ∈ vx_atS own ic cls names, w.before args s' = true := fun w hw => vx_ot_at hW0 hvm.symm (hgood w (List.mem_cons_of_mem _ (List.mem_cons_of_mem _ hw))) (hat w hw)
  have hk' : (Cond.classLink own ik cls).before args s' = true := vx_ot_at hW0 hvm.symm (hgood _ List.mem_cons_self) hk
  have hini' : (Cond.initialized cls).before args s' = true := vx_ot_at hW0 hvm.symm (hgood _ (List.mem_cons_of_mem _ List.mem_cons_self)) hini
  have hU' : vx_Zq Bundle.tN "UNASSIGNED_STACK" Bundle.steD A s' s'.heap := by rw [hhp]; exact vx_Zq.moved hW0.alike (hU.kept hS.2.1)
  have hN' : vx_Zq Bundle.tN "SUPPRESSED_SENTINEL" Bundle.listD A s' s'.heap := by rw [hhp]; exact vx_Zq.moved hW0.alike (hN.kept hS.2.1)
  have h : ∀ w ∈ Bundle.ownAtoms own ic cls names, w.before args s' = true := vx_own hat' (vx_isRefq hU'.1) (vx_isRefq hN'.1) hU'.2.word hN'.2.word
  have hown' : s'.vm.findClass own = some m.cls := by rw [hvm]; exact hown
  have hins : (Cond.instantiable cls 6).before args s' = true := h _ (by simp [Bundle.ownAtoms])
  obtain ⟨vm₁, cX, kX, hfX, hkX, -, -, X₁, st1⟩ := Y.newCold hexec (own := own) (C := cls) (index := ik) (n := 6) hown' hk' hins hini'
    (g := F0 m pc ls rest) rfl (by rw [hb]; exact d0) (Nat.le_refl _) (Nat.le_refl _)
  generalize hT1 : (T.setVm vm₁).pushCell { cls := cX, slots := kX.instanceTypes.map defaultValue, vm := .none } = T1 at X₁ st1
  have hcat : (Value.ref T.heap.size).category = 1 := rfl
  have hcellA : T1.heap[T.heap.size]? = some (freshCell cX kX) := by rw [← hT1]; exact State.heap_pushCell_size _ _
  have d3' : decode c.code (pc + 3) = .ok (.dup, 1) := by rw [hb]; exact d3
  have d4' : decode c.code (pc + 4) = .ok (.ldc is, 2) := by rw [hb]; exact d4
  have hstr' : vk_R own is text sa s' := vk_R.warm hW0 hstr
  obtain ⟨U, hsteps, hrun, hend, hW, hsame, ce, hce, hO⟩ := X₁.ctorThrowS hexec htr (own := own) (cls := cls) (names := names) (ic := ic) hown' hcls hnames h (fun x hx => nomatch hx) hfX hkX hcellA (by rw [hhp, hT]; exact Nat.le_refl _) (msg := .ref sa) rfl
    (g := { method := m, pc := pc + 6, locals := ls, stack := .ref sa :: .ref T.heap.size :: .ref T.heap.size :: rest, locked := none }) rfl hsize rfl rfl (rest := rest) rfl
    (by rw [hb]; exact d6) (by rw [hb]; exact d9) hout hRframes (by simp only [List.map_cons, List.sum_cons, hcat]; omega) hlocks
  obtain ⟨f1, f2⟩ := vx_frame hsame
  rw [hhp] at f1 f2
  have hWs : s.WarmedH U.vm := State.WarmedH.trans hW0 hW
  have hcl : s.vm.findClass cls = some ce.cls := by
    have h9 := hO.cls
    rw [hvm] at h9
    exact h9
  have hall : s.sameButNew ({ U with vm := s.vm } : State) locs mc ms := by
    subst hA
    obtain ⟨e1, e2⟩ := hsame
    rw [State.setFrames_setFrames] at e1
    have h2 : (T.setVm s.vm).sameButNew ({ U with vm := s.vm } : State) [] (0 + 1) (0 + 6) := ⟨e1, e2⟩
    have h3 := X.same.trans h2
    rw [List.append_nil] at h3
    exact h3.mono hc hs
  refine ⟨U, ?_, .threw T.heap.size, hrun, hend, Or.inr ⟨T.heap.size, rfl, cls, ce, locs, hx U hWs.alike f1 (fun q hq => f2 q hq (fun z hz => nomatch hz)), hce, hO.vm, hcl, hWs, hall, hf⟩⟩
  refine st1 _ ?_
  show Steps p.tables e below (T1.setTop { method := m, pc := pc + 3, locals := ls, stack := .ref T.heap.size :: rest, locked := none }) _
  jvm_step X₁.here [X₁.here.top, hexec, d3', Value.category]
  exact X₁.ldcString hexec (own := own) (text := text) (index := is) (a := sa) hown' hstr'.1 hstr'.2
    (g := { method := m, pc := pc + 4, locals := ls, stack := .ref T.heap.size :: .ref T.heap.size :: rest, locked := none }) rfl d4' _ hsteps
/-- 'throw new E("text")', the text by a wide index -/
theorem vx_throwSW {cc : ByteArray} {pc : Nat} (hexec : p.tables.exec = Jvm.exec) (hb : c.code = cc) (hl : l.stackTraces = false) {own cls text : String} {names : List String} {ik is ic mc ms sa : Nat} {A : Nat → Prop}
    (hown : s.vm.findClass own = some m.cls) (hcls : Bundle.fit cls = true) (hnames : ∀ n ∈ names, Bundle.fit n = true)
    (hk : (Cond.classLink own ik cls).before args s = true) (hini : (Cond.initialized cls).before args s = true) (hstr : vk_R own is text sa s) (hat : ∀ w ∈ vx_atS own ic cls names, w.before args s = true)
    (hgood : ∀ w ∈ Cond.classLink own ik cls :: Cond.initialized cls :: vx_atS own ic cls names, vx_ot w = true)
    (hU : vx_Zq Bundle.tN "UNASSIGNED_STACK" Bundle.steD A s s.heap) (hN : vx_Zq Bundle.tN "SUPPRESSED_SENTINEL" Bundle.listD A s s.heap) (hS : va_S A s.heap H locs) (hsize : ls.size = c.maxLocals)
    (d0 : decode cc pc = .ok (.new ik, 3)) (d3 : decode cc (pc + 3) = .ok (.dup, 1)) (d4 : decode cc (pc + 4) = .ok (.ldc_w is, 3)) (d7 : decode cc (pc + 7) = .ok (.invokespecial ic, 3)) (d10 : decode cc (pc + 10) = .ok (.athrow, 1))
    (hout : ∀ x ∈ c.exceptionTable.toList, covers x (pc + 10) = false)
    (hRframes : names.length + 3 < R.frames) (hRlocals : (rest.map fun v => v.category).sum + (13 * (names.length + 1) + 43) ≤ R.locals) (hRcells : cells + 1 ≤ R.cells) (hRslots : slots + 6 ≤ R.slots) (hlocks : meth.locks = false)
    (hx : ∀ t : State, s.vm.Alike t.vm → H.size ≤ t.heap.size → (∀ q : Nat, q < H.size → t.heap[q]? = H[q]?) → XC cls s t)
    (hf : ∀ z ∈ locs, free z.base) (hc : cells + 1 ≤ mc) (hs : slots + 6 ≤ ms) :
    W p l e R s m args below meth c H locs cells slots (vx_MQ below Qc XC args s mc ms free) (F0 m pc ls rest) := by
  intro T hT X
  have htr : e.platform.stackTraces = false := (show e.platform.stackTraces = l.stackTraces by rw [X.admits.platform]).trans hl
  have Y := vx_rebase X (R' := { frames := R.frames, locals := R.locals, cells := 1, slots := 6 }) (Nat.le_refl _) (Nat.le_refl _) hRcells hRslots
  obtain ⟨s', hA⟩ : ∃ z, z = (T.setVm s.vm).setFrames (.invoking m args :: below) := ⟨_, rfl⟩
  rw [← hA] at Y
  have hvm : s'.vm = s.vm := by rw [hA]; rfl
  have hhp : s'.heap = H := by rw [hA]; exact hT
  have hW0 : s.WarmedH s'.vm := by rw [hvm]; exact State.WarmedH.refl s
  have hat' : ∀ w ∈ vx_atS own ic cls names, w.before args s' = true := fun w hw => vx_ot_at hW0 hvm.symm (hgood w (List.mem_cons_of_mem _ (List.mem_cons_of_mem _ hw))) (hat w hw)
  have hk' : (Cond.classLink own ik cls).before args s' = true := vx_ot_at hW0 hvm.symm (hgood _ List.mem_cons_self) hk
  have hini' : (Cond.initialized cls).before args s' = true := vx_ot_at hW0 hvm.symm (hgood _ (List.mem_cons_of_mem _ List.mem_cons_self)) hini
  have hU' : vx_Zq Bundle.tN "UNASSIGNED_STACK" Bundle.steD A s' s'.heap := by rw [hhp]; exact vx_Zq.moved hW0.alike (hU.kept hS.2.1)
  have hN' : vx_Zq Bundle.tN "SUPPRESSED_SENTINEL" Bundle.listD A s' s'.heap := by rw [hhp]; exact vx_Zq.moved hW0.alike (hN.kept hS.2.1)
  have h : ∀ w ∈ Bundle.ownAtoms own ic cls names, w.before args s' = true := vx_own hat' (vx_isRefq hU'.1) (vx_isRefq hN'.1) hU'.2.word hN'.2.word
  have hown' : s'.vm.findClass own = some m.cls := by rw [hvm]; exact hown
  have hins : (Cond.instantiable cls 6).before args s' = true := h _ (by simp [Bundle.ownAtoms])
  obtain ⟨vm₁, cX, kX, hfX, hkX, -, -, X₁, st1⟩ := Y.newCold hexec (own := own) (C := cls) (index := ik) (n := 6) hown' hk' hins hini'
    (g := F0 m pc ls rest) rfl (by rw [hb]; exact d0) (Nat.le_refl _) (Nat.le_refl _)
  generalize hT1 : (T.setVm vm₁).pushCell { cls := cX, slots := kX.instanceTypes.map defaultValue, vm := .none } = T1 at X₁ st1
  have hcat : (Value.ref T.heap.size).category = 1 := rfl
  have hcellA : T1.heap[T.heap.size]? = some (freshCell cX kX) := by rw [← hT1]; exact State.heap_pushCell_size _ _
  have d3' : decode c.code (pc + 3) = .ok (.dup, 1) := by rw [hb]; exact d3
  have d4' : decode c.code (pc + 4) = .ok (.ldc_w is, 3) := by rw [hb]; exact d4
  have hstr' : vk_R own is text sa s' := vk_R.warm hW0 hstr
  obtain ⟨U, hsteps, hrun, hend, hW, hsame, ce, hce, hO⟩ := X₁.ctorThrowS hexec htr (own := own) (cls := cls) (names := names) (ic := ic) hown' hcls hnames h (fun x hx => nomatch hx) hfX hkX hcellA (by rw [hhp, hT]; exact Nat.le_refl _) (msg := .ref sa) rfl
    (g := { method := m, pc := pc + 7, locals := ls, stack := .ref sa :: .ref T.heap.size :: .ref T.heap.size :: rest, locked := none }) rfl hsize rfl rfl (rest := rest) rfl
    (by rw [hb]; exact d7) (by rw [hb]; exact d10) hout hRframes (by simp only [List.map_cons, List.sum_cons, hcat]; omega) hlocks
  obtain ⟨f1, f2⟩ := vx_frame hsame
  rw [hhp] at f1 f2
  have hWs : s.WarmedH U.vm := State.WarmedH.trans hW0 hW
  have hcl : s.vm.findClass cls = some ce.cls := by
    have h9 := hO.cls
    rw [hvm] at h9
    exact h9
  have hall : s.sameButNew ({ U with vm := s.vm } : State) locs mc ms := by
    subst hA
    obtain ⟨e1, e2⟩ := hsame
    rw [State.setFrames_setFrames] at e1
    have h2 : (T.setVm s.vm).sameButNew ({ U with vm := s.vm } : State) [] (0 + 1) (0 + 6) := ⟨e1, e2⟩
    have h3 := X.same.trans h2
    rw [List.append_nil] at h3
    exact h3.mono hc hs
  refine ⟨U, ?_, .threw T.heap.size, hrun, hend, Or.inr ⟨T.heap.size, rfl, cls, ce, locs, hx U hWs.alike f1 (fun q hq => f2 q hq (fun z hz => nomatch hz)), hce, hO.vm, hcl, hWs, hall, hf⟩⟩
  refine st1 _ ?_
  show Steps p.tables e below (T1.setTop { method := m, pc := pc + 3, locals := ls, stack := .ref T.heap.size :: rest, locked := none }) _
  jvm_step X₁.here [X₁.here.top, hexec, d3', Value.category]
  exact X₁.ldcStringW hexec (own := own) (text := text) (index := is) (a := sa) hown' hstr'.1 hstr'.2
    (g := { method := m, pc := pc + 4, locals := ls, stack := .ref T.heap.size :: .ref T.heap.size :: rest, locked := none }) rfl d4' _ hsteps
end Ends
section Bodies
variable {l : Launch}
theorem vx_ofW {y : MethodName} {ws ws' : List Cond} {rm : Room} {Pc : Array Value → State → Prop} {Qc : Array Value → State → Outcome → State → Prop} {XC : String → State → State → Prop} {mc ms : Nat} {free : Addr → Prop} {cc : ByteArray} {maxL : Nat} {ret : Option FieldType}
    (hy : plainName y.cls = true) (hw : ws = Cond.code y cc maxL ret :: ws')
    (body : ∀ p e s m args below meth c s₁, BodyLoose p l y (headSpec ws rm) cc maxL ret e s m args below meth c s₁ → c.maxLocals = maxL → (∀ x ∈ c.exceptionTable.toList, False) → Pc args s →
      W p l e (headSpec ws rm).room s m args below meth c s.heap [] 0 0 (vx_MQ below Qc XC args s mc ms free) (entryFrame m args maxL)) : vx_Met l y ws rm Pc Qc XC mc ms free := by
  refine MetFree.of_bodyS (code := cc) (maxLocals := maxL) (ret := ret) hy ?_ ?_
  · intro args s m h hn
    obtain ⟨meth, c, h1, h2, h3, h4, h5, h6, -, -⟩ := Cond.code_spec hn (atoms_spec (ws := ws) h _ (by rw [hw]; exact List.mem_cons_self))
    exact ⟨meth, c, h1, h2, h3, h4, h5, h6⟩
  · intro p e s m args below meth c s₁ B hml hP _
    have hh0 : s₁.heap = s.heap := by rw [B.state]; rfl
    have ht : ∀ x ∈ c.exceptionTable.toList, False := by
      obtain ⟨meth9, c9, h1, h2, -, -, -, -, h7, -⟩ := Cond.code_spec B.named (atoms_spec (ws := ws) B.pre _ (by rw [hw]; exact List.mem_cons_self))
      cases Option.some.inj (h1.symm.trans B.method)
      cases Option.some.inj (h2.symm.trans (Stand.of_body B).code)
      intro x hx
      rw [Array.isEmpty_iff.mp h7] at hx
      cases hx
    obtain ⟨t, a1, o, b1, b2, b3⟩ := body p e s m args below meth c s₁ B hml ht hP s₁ hh0 (Stand.of_body B)
    exact ⟨t, o, a1, b1, b2, b3⟩
/-- the table of a body with handlers -/
theorem vx_table {p : Program} {x y : MethodName} {S : Spec} {cc bytes : ByteArray} {maxL maxL' : Nat} {ret ret' : Option FieldType} {e : Env} {s s₁ : State} {m : MethodId} {args : Array Value} {below : List Frame} {meth : Method} {c : Code} {hh : List (Nat × Nat × Nat × Nat)}
    (B : BodyLoose p l y S cc maxL ret e s m args below meth c s₁) (h : (Cond.codeWith y bytes maxL' ret' hh).before args s = true) : c.exceptionTable.toList = tableOf hh := by
  obtain ⟨m9, meth9, c9, hn9, h1, h2, -, -, h6, -⟩ := Cond.codeWith_spec h
  cases Option.some.inj (hn9.symm.trans B.named)
  cases Option.some.inj (h1.symm.trans B.method)
  cases Option.some.inj (h2.symm.trans (Stand.of_body B).code)
  rw [← h6, table_eq]
end Bodies
end VXA
/-! ===== END ===== -/
/-! ===== BEGIN a static call of a method with an exception table ===== -/
section VXS
variable {p : Program} {l : Launch} {e : Env} {R : Room} {s : State} {m : MethodId} {args : Array Value} {below : List Frame} {meth : Method} {c : Code} {T : State} {H : Heap} {locs : List Loc} {cells slots : Nat}
abbrev vx_CSW (R : Room) (s : State) (args : Array Value) (own : String) (index : Nat) (y : MethodName) (bytes : ByteArray) (maxL : Nat) (ret : Option FieldType) (hh : List (Nat × Nat × Nat × Nat)) (ws : List Cond) (rm : Room) (mc ms n : Nat) : Prop :=
  (rm.cells = mc ∧ rm.slots = ms ∧ rm.frames + 1 ≤ R.frames ∧ 8 + (maxL + 11) + rm.locals ≤ R.locals ∧ (∀ w ∈ ws, ∀ (a' : Array Value) (U : State), s.WarmedH U.vm → w.before a' U = true) ∧ Cond.codeWith y bytes maxL ret hh ∈ ws) ∧
  (Cond.codeWith y bytes maxL ret hh).before args s = true ∧ (Cond.initialized y.cls).before args s = true ∧ (y.cls ≠ "java/lang/invoke/MethodHandle" ∧ y.cls ≠ "java/lang/invoke/VarHandle") ∧
  (∀ sig, parseMethodDescriptor y.desc = some sig → n = sig.parameters.length) ∧ (Cond.methodLink own index y).before args s = true ∧ (Cond.static y).before args s = true
theorem vx_cwSW {own : String} {index maxL mc ms : Nat} {y : MethodName} {bytes : ByteArray} {ret : Option FieldType} {hh : List (Nat × Nat × Nat × Nat)} {Ts ws ws' : List Cond} {rm : Room} (n : Nat) (ht : ∀ w ∈ Ts, w.before args s = true) (hT : GoodIn Ts (va_wsS own index y ws)) (hw : ws = Cond.codeWith y bytes maxL ret hh :: ws') (hrc : rm.cells = mc) (hrs : rm.slots = ms)
    (hd : y.cls ≠ "java/lang/invoke/MethodHandle" ∧ y.cls ≠ "java/lang/invoke/VarHandle" ∧ (parseMethodDescriptor y.desc).map (fun d => d.parameters.length) = some n) (hR : rm.frames + 1 ≤ R.frames ∧ 8 + (maxL + 11) + rm.locals ≤ R.locals) :
    vx_CSW R s args own index y bytes maxL ret hh ws rm mc ms n := by
  have ok : ∀ w ∈ va_wsS own index y ws, w.before args s = true := fun w h => ht w (hT w h).1
  have hG : GoodIn Ts ws := fun w h => hT w (by unfold va_wsS; exact List.mem_append_right _ h)
  have hc : Cond.codeWith y bytes maxL ret hh ∈ ws := by rw [hw]; exact List.mem_cons_self
  refine ⟨⟨hrc, hrs, hR.1, hR.2, pay_in ht hG, hc⟩, ht _ (hG _ hc).1, ok _ (by simp [va_wsS]), ⟨hd.1, hd.2.1⟩, fun sig h => ?_, ok _ (by simp [va_wsS]), ok _ (by simp [va_wsS])⟩
  have h2 := hd.2.2
  rw [h] at h2
  exact (Option.some.inj h2).symm
theorem vx_callSW (X : Stand p l e R s m args below meth c T locs cells slots) (hexec : p.tables.exec = Jvm.exec) {own : String} {index : Nat} {y : MethodName} {bytes : ByteArray} {maxL : Nat} {ret : Option FieldType} {hh : List (Nat × Nat × Nat × Nat)}
    (hown : s.vm.findClass own = some m.cls) (hlink : (Cond.methodLink own index y).before args s = true) (hstat : (Cond.static y).before args s = true) (hinit : (Cond.initialized y.cls).before args s = true)
    (hcode : (Cond.codeWith y bytes maxL ret hh).before args s = true) (hy : y.cls ≠ "java/lang/invoke/MethodHandle" ∧ y.cls ≠ "java/lang/invoke/VarHandle")
    {W9 : Nat} {Pre : Pt → Array Value → Prop} {Post : Pt → Array Value → Option Value → Pt → Prop} (hK : Back l R p e below s args y 3 W9 Pre Post)
    {g : JFrame} (hg : g.method = m) (hsize : g.locals.size = c.maxLocals) {argsL rest : List Value} (hlen : ∀ sig, parseMethodDescriptor y.desc = some sig → argsL.length = sig.parameters.length)
    (hstack : g.stack = argsL.reverse ++ rest) (hW : 2 * g.monitorRoom + (rest.map fun v => v.category).sum ≤ W9) (hdg : decode c.code g.pc = .ok (.invokestatic index, 3))
    (hpre : ∀ vm₁, s.WarmedH vm₁ → Pre ⟨T.setVm vm₁, locs, cells, slots⟩ argsL.toArray) :
    ∃ (v : Option Value) (vm₁ : Vm) (B : Pt), s.WarmedH vm₁ ∧ Stand p l e R s m args below meth c B.U B.locs B.cells B.slots ∧ Post ⟨T.setVm vm₁, locs, cells, slots⟩ argsL.toArray v B ∧
      ∀ target, Steps p.tables e below (B.U.setTop { g with pc := g.pc + 3, stack := v.toList ++ rest }) target → Steps p.tables e below (T.setTop g) target := by
  obtain ⟨mk, methM, cM, hnamed, hmethM, -, -, -, -, -, -, hsigM⟩ := Cond.codeWith_spec hcode
  have hstatic : methM.isStatic = true := Cond.static_spec hnamed hmethM hstat
  obtain ⟨kP, hkP, -⟩ := className_of_methodNamed hnamed
  have hinitP : kP.init = .initialized := Cond.initialized_spec (findClass_of_methodNamed hnamed) hkP hinit
  obtain ⟨vm₁, X₁, hstep₁⟩ := X.invokestatic hexec hown hlink hnamed hmethM hstatic hkP hinitP hy (g := g) hg (argsL := argsL) (rest := rest) (hlen _ hsigM) hstack hdg
  obtain ⟨v, B, X', hpost, hsteps⟩ := hK m meth c ⟨T.setVm vm₁, locs, cells, slots⟩ { g with stack := rest } (.invokestatic index) mk argsL.toArray X₁ hg hsize hdg hW (X₁.named hnamed) (hpre vm₁ X₁.warmed)
  exact ⟨v, vm₁, B, X₁.warmed, X', hpost, fun target h => hstep₁ _ fun acts => by rw [doInvoke_state]; exact hsteps.trans h⟩
theorem vx_runSW {y : MethodName} {bytes cc : ByteArray} {maxL nL mc ms n index : Nat} {ret : Option FieldType} {hh : List (Nat × Nat × Nat × Nat)} {ws : List Cond} {rm : Room} {Pc : Array Value → State → Prop} {Qc : Array Value → State → Outcome → State → Prop} {free : Addr → Prop} {Ts : List Cond} {own : String} {As rest : List Value} {g : JFrame}
    (S : CallFix p m c cc nL s args Ts own) (hM : Met l y ws rm Pc Qc mc ms free) (cw : vx_CSW R s args own index y bytes maxL ret hh ws rm mc ms n) (hp : PreS s H Pc As)
    (hg : g.method = m) (hn : As.length = n) (hsize : g.locals.size = nL) (hstack : g.stack = As.reverse ++ rest) (hW : 2 * g.monitorRoom + (rest.map fun v => v.category).sum ≤ 8) (hdg : decode cc g.pc = .ok (.invokestatic index, 3)) (hf : cells + mc ≤ R.cells ∧ slots + ms ≤ R.slots) :
    va_Run p l e R s m args below meth c H locs cells slots mc ms g rest (Qc As.toArray) (free) := by
  obtain ⟨⟨hrc, hrs, hfr, hlo, hws, hcw⟩, hcode, hini, hy, hlen, hl, hstt⟩ := cw
  have hK : Back l R p e below s args y 3 8 (PreOf R mc ms Pc) (PostOf Qc mc ms free) := va_backW (hh := hh) (bytes := bytes) (maxL := maxL) (ret := ret) hM hp.1 hrc hrs hfr hlo hws hcw (fun a' U hW => word_at hW (Or.inl (by first | rfl | simp [Cond.onTables, Cond.keeps, Cond.steady])) hini)
  obtain ⟨hx, hb, hml, ho, -⟩ := S
  intro T hT X
  obtain ⟨v, vm₁, ⟨U', l2, c2, s2⟩, hW₁, X', ⟨g', mk, t, L, e1, e2, hq, h1, hL, h2, h3⟩, st⟩ := vx_callSW X hx (hh := hh) (bytes := bytes) (maxL := maxL) (ret := ret) ho hl hstt hini hcode hy hK hg (hsize.trans hml.symm) (argsL := As) (rest := rest) (fun sig h => hn.trans (hlen sig h)) hstack hW (by rw [hb]; exact hdg)
    (fun vm₁ hW₁ => ⟨hf.1, hf.2, hp.2 (T.setVm vm₁) hT hW₁⟩)
  dsimp only [Pt.U, Pt.locs, Pt.cells, Pt.slots] at X' e1 e2 h1 h2 h3 st
  subst h1; subst h2; subst h3
  exact ⟨v, (T.setVm vm₁).calling g' mk As.toArray, t, U', L, hT, X', hL, e1, e2, hq, st⟩
/-- not caught here, past rows that name other classes: it goes on to the caller -/
theorem vx_outP {p : Program} {l : Launch} {e : Env} {R : Room} {s : State} {m : MethodId} {args : Array Value} {below : List Frame} {meth : Method} {c : Code} {H : Heap} {locs : List Loc} {cells slots : Nat} {free : Addr → Prop} {ls : Array Slot} {rest : List Value} {Qc : Array Value → State → Outcome → State → Prop} {XC : String → State → State → Prop}
    {pc : Nat} {own E : String} {ce : Cell} {q : Addr} {mc ms : Nat} (hown : s.vm.findClass own = some m.cls) (hlocks : meth.locks = false)
    (hpass : ∀ z ∈ c.exceptionTable.toList, covers z pc = false ∨ (z.catchType ≠ 0 ∧ ∃ nm : String, (Cond.classLink own z.catchType nm).before args s = true ∧ va_Nc E nm s)) (hcell : H[q]? = some ce) (hv : ce.vm = .none) (hcl : s.vm.findClass E = some ce.cls)
    (hx : ∀ t : State, t.heap = H → s.vm.Alike t.vm → XC E s t) (hf : ∀ z ∈ locs, free z.base) (hc : cells ≤ mc) (hs : slots ≤ ms) :
    vx_W p l e R s m args below meth c H locs cells slots (vx_MQ below Qc XC args s mc ms free) (F0 m pc ls rest) q := by
  intro T hT X
  have hpl : e.platform.magicAccessors = ({} : Platform).magicAccessors := by rw [X.admits.platform]
  obtain ⟨vm', hW', X', st⟩ := X.outThrough hlocks q (g := F0 m pc ls rest) rfl rfl rfl (cell := ce) (by rw [hT]; exact hcell) (by rw [hv]; rfl)
    (by obtain ⟨k9, h9, -⟩ := Vm.findClass_spec hcl; exact ⟨k9, h9⟩) (fun z hz => by
      rcases hpass z hz with h | ⟨hz0, nm, hl1, hn1⟩
      · exact Or.inl h
      · obtain ⟨c6, hc6, hcl6⟩ := Cond.classLink_spec hown hl1 e.platform hpl
        obtain ⟨a8, b8, h1, h2, h3⟩ := hn1
        cases Option.some.inj (h1.symm.trans hcl)
        cases Option.some.inj (h2.symm.trans hc6)
        exact Or.inr ⟨hz0, _, hcl6, h3⟩)
  obtain ⟨g₀, hfr⟩ := X'.frames_eq
  have hcell9 : ((T.setVm vm').setFrames (.throwing q :: below)).heap[q]? = some ce := by
    show T.heap[q]? = some ce
    rw [hT]; exact hcell
  have hend : Ended ((T.setVm vm').setFrames (.throwing q :: below)) below (.threw q) := State.frames_setFrames _ (State.cur_lt_of_frames hfr)
  refine ⟨(T.setVm vm').setFrames (.throwing q :: below), ?_, .threw q, X'.here.running, hend, Or.inr ⟨q, rfl, E, ce, locs, hx _ hT (X'.ends _).1.alike, hcell9, hv, hcl, (X'.ends _).1, (X'.ends _).2.mono hc hs, hf⟩⟩
  rw [X.pushThrowing_eq]
  exact st
/-- a thing of a world lies in the heap -/
theorem vx_lt {D : va_G} {cl : List vw_C} {ws : va_W} {H1 : Heap} (h : va_P D cl ws H1) {k : Nat} {q : Nat × va_E} (hk : ws[k]? = some q) : q.1 < H1.size := (h k q hk).lt
end VXS
/-! ===== END ===== -/
/-! ===== BEGIN methods with a table of their own: called by a name, returning or throwing ===== -/
section VXH
/-! vx_backW, vx_callVX, vx_callSX, vx_callVW, vx_runVW, vx_runVX, vx_runSX, vx_ofWH follow the same proofs as their sisters above (Free/Laws.lean, Shelf42/LK1.lean); vx_outP calls Shelf42/NT130.lean (outThrough). -/
section
variable {l : Launch} {R : Room} {p : Program} {e : Env} {below : List Frame} {s : State} {sargs : Array Value} {y : MethodName} {len W9 : Nat}
theorem vx_backW {ws : List Cond} {rm : Room} {Pc : Array Value → State → Prop} {Qc : Array Value → State → Outcome → State → Prop} {XC : String → State → State → Prop} {mc ms : Nat} {free : Addr → Prop} {bytes : ByteArray} {maxL : Nat} {ret : Option FieldType} {hh : List (Nat × Nat × Nat × Nat)}
    (hM : vx_Met l y ws rm Pc Qc XC mc ms free) (hblind : FrameBlind Pc) (hrc : rm.cells = mc) (hrs : rm.slots = ms)
    (hframes : rm.frames + 1 ≤ R.frames) (hlocals : W9 + (maxL + 11) + rm.locals ≤ R.locals)
    (hws : ∀ w ∈ ws, ∀ a' U, s.WarmedH U.vm → w.before a' U = true) (hcode : Cond.codeWith y bytes maxL ret hh ∈ ws) (hinit : ∀ a' U, s.WarmedH U.vm → (Cond.initialized y.cls).before a' U = true) :
    vx_Back l R p e below s sargs y len W9 (PreOf R mc ms Pc) (PostOf Qc mc ms free) (vx_Post XC mc ms free) := by
  intro m meth c A g ig mk a X hg hsize hdg hW hn hp
  have h1 : (headSpec ws rm).pre.before a A.U = true := atoms_intro fun w hw => hws w hw _ _ X.warmed
  have h2 : (Cond.codeWith y bytes maxL ret hh).before a A.U = true := hws _ hcode _ _ X.warmed
  have h3 : (Cond.initialized y.cls).before a A.U = true := hinit _ _ X.warmed
  have h4 : A.cells + (headSpec ws rm).room.cells ≤ R.cells := by rw [show (headSpec ws rm).room.cells = mc from hrc]; exact hp.1
  have h5 : A.slots + (headSpec ws rm).room.slots ≤ R.slots := by rw [show (headSpec ws rm).room.slots = ms from hrs]; exact hp.2.1
  have hPc : Pc a (A.U.calling g mk a) := hblind _ _ _ _ hp.2.2
  obtain ⟨U, Ls, c0, s0⟩ := A
  dsimp only [Pt.U, Pt.locs, Pt.cells, Pt.slots] at h1 h2 h3 h4 h5 X hn hPc ⊢
  obtain ⟨m9, methY, cY, hn9, hmY, hcY, -, hlY, -⟩ := Cond.codeWith_spec h2
  cases Option.some.inj (hn9.symm.trans hn)
  obtain ⟨kY, hkY, -⟩ := className_of_methodNamed hn
  have hinitY : kY.init = .initialized := Cond.initialized_spec (findClass_of_methodNamed hn) hkY h3
  have h : At U g.method c below := by rw [hg]; exact X.here
  have hlocals9 : W9 + (maxL + 11) + (headSpec ws rm).room.locals ≤ R.locals := hlocals
  have happ : (headSpec ws rm).appliesLoose y e.platform (U.calling g mk a) = true :=
    Spec.appliesLoose_calling (g := g) h hdg hn hkY hinitY
      (X.room_calling (g := g) (R' := (headSpec ws rm).room) hsize hmY hcY hframes (by rw [hlY]; omega) h4 h5) h1
  obtain ⟨mid, hmid⟩ := h.above
  have hfr : (U.setTop g).frames = (.java g :: mid) ++ below := by rw [State.frames_setTop' g h.top, hmid]; rfl
  obtain ⟨o, s₂, hsteps, -, hend, hq⟩ := Steps.callFree hM p X.admits X.cas X.clock (acts := []) hfr happ hPc trivial
  have hq' : vx_Q Qc XC mc ms free a (U.calling g mk a) o s₂ := hq
  rw [State.frames_setTop' g h.top] at hend
  obtain ⟨g₀, hg0⟩ := Option.isSome_iff_exists.mp h.top
  obtain ⟨r, hr⟩ := State.topJava?_eq_some.mp hg0
  have hr' : (({ U with heap := s₂.heap, slotsUsed := s₂.slotsUsed } : State).setVm s₂.vm).frames = .java g₀ :: r := hr
  rcases hq' with ⟨hqc, L, hfe, hL⟩ | ⟨q, rfl, E, ce, L, hx, hce, hcv, hcl, hW₂, hsm, hL⟩
  · obtain ⟨⟨v, rfl⟩, hW₂, e2, q2, q3, q4, q5, q6⟩ := id hfe
    have e3 : s₂ = ({ (U.calling g mk a).setFrames s₂.frames with heap := s₂.heap, slotsUsed := s₂.slotsUsed } : State).setVm s₂.vm := by
      have : s₂ = ({ s₂ with vm := (U.calling g mk a).vm } : State).setVm s₂.vm := rfl
      rw [e2] at this
      exact this
    obtain ⟨c₂, i₂, len₂, hc₂, hd₂, hf₂⟩ := hend
    have hW' : U.WarmedH s₂.vm := hW₂
    have hcc : c₂ = c := by
      have h1 : s₂.code? g.method = U.code? g.method := by
        rw [State.code?_eq, State.code?_eq, hW'.alike.method?]
      exact Option.some.inj (hc₂.symm.trans (h1.trans h.code))
    subst hcc
    have hlen : len₂ = len := by rw [hdg] at hd₂; cases hd₂; rfl
    subst hlen
    have hs₂ : s₂ = (({ U with heap := s₂.heap, slotsUsed := s₂.slotsUsed } : State).setVm s₂.vm).setTop { g with pc := g.pc + len₂, stack := v.toList ++ g.stack } := by
      refine e3.trans ?_
      rw [hf₂, State.calling_eq h.top, State.setFrames_setFrames, State.setTop_of_frames _ hr', hr]
      rfl
    have hsame : U.sameButNew ({ U with heap := s₂.heap, slotsUsed := s₂.slotsUsed } : State) L mc ms := by
      refine ⟨?_, q2, q3, q4, q5, q6⟩
      obtain ⟨t, ht, -⟩ := State.frames_cons hr
      show ({ U with heap := s₂.heap, slotsUsed := s₂.slotsUsed } : State) = { U.setFrames U.frames with heap := s₂.heap, slotsUsed := s₂.slotsUsed }
      rw [State.setFrames_self ht]
    subst hg
    refine Or.inl ⟨v, ⟨(({ U with heap := s₂.heap, slotsUsed := s₂.slotsUsed } : State).setVm s₂.vm), Ls ++ L, c0 + mc, s0 + ms⟩,
      ⟨X.admits, X.cas, X.clock, X.frames, X.room, X.hears, X.method, X.code, (X.here.setHeapUsed s₂.heap s₂.slotsUsed).setVm hW'.alike, X.tail, State.WarmedH.trans X.warmed hW', X.limits, X.bytes, X.same.trans (hsame.setVm s.vm)⟩,
      ⟨g, mk, s₂, L, rfl, rfl, hqc, rfl, hL, rfl, rfl⟩, ?_⟩
    show Steps p.tables e below _ ((({ U with heap := s₂.heap, slotsUsed := s₂.slotsUsed } : State).setVm s₂.vm).setTop { g with pc := g.pc + len₂, stack := v.toList ++ g.stack })
    rw [← hs₂]
    exact hsteps
  · obtain ⟨e2, q2, q3, q4, q5, q6⟩ := id hsm
    have e3 : s₂ = ({ (U.calling g mk a).setFrames s₂.frames with heap := s₂.heap, slotsUsed := s₂.slotsUsed } : State).setVm s₂.vm := by
      have : s₂ = ({ s₂ with vm := (U.calling g mk a).vm } : State).setVm s₂.vm := rfl
      rw [e2] at this
      exact this
    have hf₂ : s₂.frames = .throwing q :: .java g :: U.frames.tail := hend
    have hW' : U.WarmedH s₂.vm := hW₂
    have hs₂ : s₂ = ((({ U with heap := s₂.heap, slotsUsed := s₂.slotsUsed } : State).setVm s₂.vm).setTop g).pushFrame (.throwing q) := by
      refine e3.trans ?_
      rw [hf₂, State.calling_eq h.top, State.setFrames_setFrames, State.pushFrame, State.frames_setTop _ hr', State.setTop_of_frames _ hr', State.setFrames_setFrames, hr]
      rfl
    have hsame : U.sameButNew ({ U with heap := s₂.heap, slotsUsed := s₂.slotsUsed } : State) L mc ms := by
      refine ⟨?_, q2, q3, q4, q5, q6⟩
      obtain ⟨t, ht, -⟩ := State.frames_cons hr
      show ({ U with heap := s₂.heap, slotsUsed := s₂.slotsUsed } : State) = { U.setFrames U.frames with heap := s₂.heap, slotsUsed := s₂.slotsUsed }
      rw [State.setFrames_self ht]
    subst hg
    refine Or.inr ⟨q, ⟨(({ U with heap := s₂.heap, slotsUsed := s₂.slotsUsed } : State).setVm s₂.vm), Ls ++ L, c0 + mc, s0 + ms⟩,
      ⟨X.admits, X.cas, X.clock, X.frames, X.room, X.hears, X.method, X.code, (X.here.setHeapUsed s₂.heap s₂.slotsUsed).setVm hW'.alike, X.tail, State.WarmedH.trans X.warmed hW', X.limits, X.bytes, X.same.trans (hsame.setVm s.vm)⟩,
      ⟨g, mk, s₂, L, E, ce, rfl, rfl, hx, hce, hcv, hcl, rfl, hL, rfl, rfl⟩, ?_⟩
    show Steps p.tables e below _ (((({ U with heap := s₂.heap, slotsUsed := s₂.slotsUsed } : State).setVm s₂.vm).setTop g).pushFrame (.throwing q))
    rw [← hs₂]
    exact hsteps
end
variable {p : Program} {l : Launch} {e : Env} {R : Room} {s : State} {m : MethodId} {args : Array Value} {below : List Frame} {meth : Method} {c : Code} {T : State} {H : Heap} {locs : List Loc} {cells slots : Nat}
theorem vx_callVX (X : Stand p l e R s m args below meth c T locs cells slots) (hexec : p.tables.exec = Jvm.exec) {own C : String} {index : Nat} {y : MethodName} {bytes : ByteArray} {maxL : Nat} {ret : Option FieldType} {hh : List (Nat × Nat × Nat × Nat)}
    (hown : s.vm.findClass own = some m.cls) (hlink : (Cond.methodLink own index y).before args s = true) (hinst : (Cond.instanceMethod y).before args s = true) (hsel : (Cond.selects C y y).before args s = true)
    (hcode : (Cond.codeWith y bytes maxL ret hh).before args s = true) (hy : y.cls ≠ "java/lang/invoke/MethodHandle" ∧ y.cls ≠ "java/lang/invoke/VarHandle")
    {W9 : Nat} {Pre : Pt → Array Value → Prop} {Post : Pt → Array Value → Option Value → Pt → Prop} {PostX : Pt → Array Value → Addr → Pt → Prop} (hK : vx_Back l R p e below s args y 3 W9 Pre Post PostX)
    {b : Addr} {cellB : Cell} (hcell : T.heap[b]? = some cellB) (hobj : cellB.vm.isStatics = false) (hcls : s.vm.findClass C = some cellB.cls)
    {g : JFrame} (hg : g.method = m) (hsize : g.locals.size = c.maxLocals) {argsL rest : List Value} (hlen : ∀ sig, parseMethodDescriptor y.desc = some sig → argsL.length = sig.parameters.length)
    (hstack : g.stack = argsL.reverse ++ .ref b :: rest) (hW : 2 * g.monitorRoom + (rest.map fun v => v.category).sum ≤ W9) (hdg : decode c.code g.pc = .ok (.invokevirtual index, 3))
    (hpre : ∀ vm₁, s.WarmedH vm₁ → Pre ⟨T.setVm vm₁, locs, cells, slots⟩ (Value.ref b :: argsL).toArray) :
    (∃ (v : Option Value) (vm₁ : Vm) (B : Pt), s.WarmedH vm₁ ∧ Stand p l e R s m args below meth c B.U B.locs B.cells B.slots ∧ Post ⟨T.setVm vm₁, locs, cells, slots⟩ (Value.ref b :: argsL).toArray v B ∧
      ∀ target, Steps p.tables e below (B.U.setTop { g with pc := g.pc + 3, stack := v.toList ++ rest }) target → Steps p.tables e below (T.setTop g) target) ∨
    (∃ (q : Addr) (vm₁ : Vm) (B : Pt), s.WarmedH vm₁ ∧ Stand p l e R s m args below meth c B.U B.locs B.cells B.slots ∧ PostX ⟨T.setVm vm₁, locs, cells, slots⟩ (Value.ref b :: argsL).toArray q B ∧
      Steps p.tables e below (T.setTop g) ((B.U.setTop { g with stack := rest }).pushFrame (.throwing q))) := by
  obtain ⟨mk, methM, hnamed, hmethM, hstM, habM⟩ := Cond.instanceMethod_spec hinst
  obtain ⟨m8, methM', cM, hn8, hmethM', -, -, -, -, -, -, hsigM⟩ := Cond.codeWith_spec hcode
  cases Option.some.inj (hn8.symm.trans hnamed)
  cases hmethM.symm.trans hmethM'
  obtain ⟨c2, r2, m2, q1, q2, q3, q4, kP, hkP, hkPi⟩ := Cond.selects_spec hsel
  cases hcls.symm.trans q1
  cases (State.methodFound?_of_named hnamed hy).symm.trans q2
  cases hnamed.symm.trans q3
  have hselP : selectMethod e.platform s.vm cellB.cls mk = .method mk := by rw [Launch.admits_selectMethod X.admits]; exact q4
  obtain ⟨vm₁, X₁, hstep₁⟩ := X.invokevirtual hexec hown hlink hnamed hmethM hstM hkP hkPi hy (a := b) (cell := cellB) hcell
    (fun z h => by rw [h] at hobj; cases hobj) hselP hmethM habM hkP hkPi (g := g) hg (argsL := argsL) (rest := rest) (hlen _ hsigM) hstack hdg
  rcases hK m meth c ⟨T.setVm vm₁, locs, cells, slots⟩ { g with stack := rest } (.invokevirtual index) mk (Value.ref b :: argsL).toArray X₁ hg hsize hdg hW (X₁.named hnamed) (hpre vm₁ X₁.warmed) with ⟨v, B, X', hpost, hsteps⟩ | ⟨q, B, X', hpost, hsteps⟩
  · exact Or.inl ⟨v, vm₁, B, X₁.warmed, X', hpost, fun target h => hstep₁ _ fun acts => by rw [doInvoke_state]; exact hsteps.trans h⟩
  · exact Or.inr ⟨q, vm₁, B, X₁.warmed, X', hpost, hstep₁ _ fun acts => by rw [doInvoke_state]; exact hsteps⟩
theorem vx_callSX (X : Stand p l e R s m args below meth c T locs cells slots) (hexec : p.tables.exec = Jvm.exec) {own : String} {index : Nat} {y : MethodName} {bytes : ByteArray} {maxL : Nat} {ret : Option FieldType} {hh : List (Nat × Nat × Nat × Nat)}
    (hown : s.vm.findClass own = some m.cls) (hlink : (Cond.methodLink own index y).before args s = true) (hstat : (Cond.static y).before args s = true) (hinit : (Cond.initialized y.cls).before args s = true)
    (hcode : (Cond.codeWith y bytes maxL ret hh).before args s = true) (hy : y.cls ≠ "java/lang/invoke/MethodHandle" ∧ y.cls ≠ "java/lang/invoke/VarHandle")
    {W9 : Nat} {Pre : Pt → Array Value → Prop} {Post : Pt → Array Value → Option Value → Pt → Prop} {PostX : Pt → Array Value → Addr → Pt → Prop} (hK : vx_Back l R p e below s args y 3 W9 Pre Post PostX)
    {g : JFrame} (hg : g.method = m) (hsize : g.locals.size = c.maxLocals) {argsL rest : List Value} (hlen : ∀ sig, parseMethodDescriptor y.desc = some sig → argsL.length = sig.parameters.length)
    (hstack : g.stack = argsL.reverse ++ rest) (hW : 2 * g.monitorRoom + (rest.map fun v => v.category).sum ≤ W9) (hdg : decode c.code g.pc = .ok (.invokestatic index, 3))
    (hpre : ∀ vm₁, s.WarmedH vm₁ → Pre ⟨T.setVm vm₁, locs, cells, slots⟩ argsL.toArray) :
    (∃ (v : Option Value) (vm₁ : Vm) (B : Pt), s.WarmedH vm₁ ∧ Stand p l e R s m args below meth c B.U B.locs B.cells B.slots ∧ Post ⟨T.setVm vm₁, locs, cells, slots⟩ argsL.toArray v B ∧
      ∀ target, Steps p.tables e below (B.U.setTop { g with pc := g.pc + 3, stack := v.toList ++ rest }) target → Steps p.tables e below (T.setTop g) target) ∨
    (∃ (q : Addr) (vm₁ : Vm) (B : Pt), s.WarmedH vm₁ ∧ Stand p l e R s m args below meth c B.U B.locs B.cells B.slots ∧ PostX ⟨T.setVm vm₁, locs, cells, slots⟩ argsL.toArray q B ∧
      Steps p.tables e below (T.setTop g) ((B.U.setTop { g with stack := rest }).pushFrame (.throwing q))) := by
  obtain ⟨mk, methM, cM, hnamed, hmethM, -, -, -, -, -, -, hsigM⟩ := Cond.codeWith_spec hcode
  have hstatic : methM.isStatic = true := Cond.static_spec hnamed hmethM hstat
  obtain ⟨kP, hkP, -⟩ := className_of_methodNamed hnamed
  have hinitP : kP.init = .initialized := Cond.initialized_spec (findClass_of_methodNamed hnamed) hkP hinit
  obtain ⟨vm₁, X₁, hstep₁⟩ := X.invokestatic hexec hown hlink hnamed hmethM hstatic hkP hinitP hy (g := g) hg (argsL := argsL) (rest := rest) (hlen _ hsigM) hstack hdg
  rcases hK m meth c ⟨T.setVm vm₁, locs, cells, slots⟩ { g with stack := rest } (.invokestatic index) mk argsL.toArray X₁ hg hsize hdg hW (X₁.named hnamed) (hpre vm₁ X₁.warmed) with ⟨v, B, X', hpost, hsteps⟩ | ⟨q, B, X', hpost, hsteps⟩
  · exact Or.inl ⟨v, vm₁, B, X₁.warmed, X', hpost, fun target h => hstep₁ _ fun acts => by rw [doInvoke_state]; exact hsteps.trans h⟩
  · exact Or.inr ⟨q, vm₁, B, X₁.warmed, X', hpost, hstep₁ _ fun acts => by rw [doInvoke_state]; exact hsteps⟩
theorem vx_callVW (X : Stand p l e R s m args below meth c T locs cells slots) (hexec : p.tables.exec = Jvm.exec) {own C : String} {index : Nat} {y : MethodName} {bytes : ByteArray} {maxL : Nat} {ret : Option FieldType} {hh : List (Nat × Nat × Nat × Nat)}
    (hown : s.vm.findClass own = some m.cls) (hlink : (Cond.methodLink own index y).before args s = true) (hinst : (Cond.instanceMethod y).before args s = true) (hsel : (Cond.selects C y y).before args s = true)
    (hcode : (Cond.codeWith y bytes maxL ret hh).before args s = true) (hy : y.cls ≠ "java/lang/invoke/MethodHandle" ∧ y.cls ≠ "java/lang/invoke/VarHandle")
    {W9 : Nat} {Pre : Pt → Array Value → Prop} {Post : Pt → Array Value → Option Value → Pt → Prop} (hK : Back l R p e below s args y 3 W9 Pre Post)
    {b : Addr} {cellB : Cell} (hcell : T.heap[b]? = some cellB) (hobj : cellB.vm.isStatics = false) (hcls : s.vm.findClass C = some cellB.cls)
    {g : JFrame} (hg : g.method = m) (hsize : g.locals.size = c.maxLocals) {argsL rest : List Value} (hlen : ∀ sig, parseMethodDescriptor y.desc = some sig → argsL.length = sig.parameters.length)
    (hstack : g.stack = argsL.reverse ++ .ref b :: rest) (hW : 2 * g.monitorRoom + (rest.map fun v => v.category).sum ≤ W9) (hdg : decode c.code g.pc = .ok (.invokevirtual index, 3))
    (hpre : ∀ vm₁, s.WarmedH vm₁ → Pre ⟨T.setVm vm₁, locs, cells, slots⟩ (Value.ref b :: argsL).toArray) :
    ∃ (v : Option Value) (vm₁ : Vm) (B : Pt), s.WarmedH vm₁ ∧ Stand p l e R s m args below meth c B.U B.locs B.cells B.slots ∧ Post ⟨T.setVm vm₁, locs, cells, slots⟩ (Value.ref b :: argsL).toArray v B ∧
      ∀ target, Steps p.tables e below (B.U.setTop { g with pc := g.pc + 3, stack := v.toList ++ rest }) target → Steps p.tables e below (T.setTop g) target := by
  obtain ⟨mk, methM, hnamed, hmethM, hstM, habM⟩ := Cond.instanceMethod_spec hinst
  obtain ⟨m8, methM', cM, hn8, hmethM', -, -, -, -, -, -, hsigM⟩ := Cond.codeWith_spec hcode
  cases Option.some.inj (hn8.symm.trans hnamed)
  cases hmethM.symm.trans hmethM'
  obtain ⟨c2, r2, m2, q1, q2, q3, q4, kP, hkP, hkPi⟩ := Cond.selects_spec hsel
  cases hcls.symm.trans q1
  cases (State.methodFound?_of_named hnamed hy).symm.trans q2
  cases hnamed.symm.trans q3
  have hselP : selectMethod e.platform s.vm cellB.cls mk = .method mk := by rw [Launch.admits_selectMethod X.admits]; exact q4
  obtain ⟨vm₁, X₁, hstep₁⟩ := X.invokevirtual hexec hown hlink hnamed hmethM hstM hkP hkPi hy (a := b) (cell := cellB) hcell
    (fun z h => by rw [h] at hobj; cases hobj) hselP hmethM habM hkP hkPi (g := g) hg (argsL := argsL) (rest := rest) (hlen _ hsigM) hstack hdg
  obtain ⟨v, B, X', hpost, hsteps⟩ := hK m meth c ⟨T.setVm vm₁, locs, cells, slots⟩ { g with stack := rest } (.invokevirtual index) mk (Value.ref b :: argsL).toArray X₁ hg hsize hdg hW (X₁.named hnamed) (hpre vm₁ X₁.warmed)
  exact ⟨v, vm₁, B, X₁.warmed, X', hpost, fun target h => hstep₁ _ fun acts => by rw [doInvoke_state]; exact hsteps.trans h⟩
abbrev vx_CVW (R : Room) (s : State) (args : Array Value) (own C : String) (index : Nat) (y : MethodName) (bytes : ByteArray) (maxL : Nat) (ret : Option FieldType) (hh : List (Nat × Nat × Nat × Nat)) (ws : List Cond) (rm : Room) (mc ms n : Nat) : Prop :=
  (rm.cells = mc ∧ rm.slots = ms ∧ rm.frames + 1 ≤ R.frames ∧ 8 + (maxL + 11) + rm.locals ≤ R.locals ∧ (∀ w ∈ ws, ∀ (a' : Array Value) (U : State), s.WarmedH U.vm → w.before a' U = true) ∧ Cond.codeWith y bytes maxL ret hh ∈ ws) ∧
  (Cond.codeWith y bytes maxL ret hh).before args s = true ∧ (Cond.initialized y.cls).before args s = true ∧ (y.cls ≠ "java/lang/invoke/MethodHandle" ∧ y.cls ≠ "java/lang/invoke/VarHandle") ∧
  (∀ sig, parseMethodDescriptor y.desc = some sig → n = sig.parameters.length) ∧ (Cond.methodLink own index y).before args s = true ∧ (Cond.instanceMethod y).before args s = true ∧ (Cond.selects C y y).before args s = true
theorem vx_cwVW {own C : String} {index maxL mc ms : Nat} {y : MethodName} {bytes : ByteArray} {ret : Option FieldType} {hh : List (Nat × Nat × Nat × Nat)} {Ts ws ws' : List Cond} {rm : Room} (n : Nat) (ht : ∀ w ∈ Ts, w.before args s = true) (hT : GoodIn Ts (wsV own index C y ws)) (hw : ws = Cond.codeWith y bytes maxL ret hh :: ws') (hrc : rm.cells = mc) (hrs : rm.slots = ms)
    (hd : y.cls = C ∧ y.cls ≠ "java/lang/invoke/MethodHandle" ∧ y.cls ≠ "java/lang/invoke/VarHandle" ∧ (parseMethodDescriptor y.desc).map (fun d => d.parameters.length) = some n) (hR : rm.frames + 1 ≤ R.frames ∧ 8 + (maxL + 11) + rm.locals ≤ R.locals) :
    vx_CVW R s args own C index y bytes maxL ret hh ws rm mc ms n := by
  obtain ⟨hC, hd⟩ := hd
  subst hC
  have ok : ∀ w ∈ wsV own index y.cls y ws, w.before args s = true := fun w h => ht w (hT w h).1
  have hG : GoodIn Ts ws := fun w h => hT w (by unfold wsV; exact List.mem_append_right _ h)
  have hc : Cond.codeWith y bytes maxL ret hh ∈ ws := by rw [hw]; exact List.mem_cons_self
  refine ⟨⟨hrc, hrs, hR.1, hR.2, pay_in ht hG, hc⟩, ht _ (hG _ hc).1, ok _ (by simp [wsV]), ⟨hd.1, hd.2.1⟩, fun sig h => ?_, ok _ (by simp [wsV]), ok _ (by simp [wsV]), ok _ (by simp [wsV])⟩
  have h2 := hd.2.2
  rw [h] at h2
  exact (Option.some.inj h2).symm
theorem vx_runVW {y : MethodName} {bytes cc : ByteArray} {maxL nL mc ms n index : Nat} {ret : Option FieldType} {hh : List (Nat × Nat × Nat × Nat)} {ws : List Cond} {rm : Room} {Pc : Array Value → State → Prop} {Qc : Array Value → State → Outcome → State → Prop} {free : Addr → Prop} {Ts : List Cond} {own C : String} {b : Addr} {As rest : List Value} {g : JFrame}
    (S : CallFix p m c cc nL s args Ts own) (hM : Met l y ws rm Pc Qc mc ms free) (cw : vx_CVW R s args own C index y bytes maxL ret hh ws rm mc ms n) (hp : PreV s H C b Pc As)
    (hg : g.method = m) (hn : As.length = n) (hsize : g.locals.size = nL) (hstack : g.stack = As.reverse ++ .ref b :: rest) (hW : 2 * g.monitorRoom + (rest.map fun v => v.category).sum ≤ 8) (hdg : decode cc g.pc = .ok (.invokevirtual index, 3)) (hf : cells + mc ≤ R.cells ∧ slots + ms ≤ R.slots) :
    va_Run p l e R s m args below meth c H locs cells slots mc ms g rest (Qc (Value.ref b :: As).toArray) free := by
  obtain ⟨⟨hrc, hrs, hfr, hlo, hws, hcw⟩, hcode, hini, hy, hlen, hl, hin, hse⟩ := cw
  have hK : Back l R p e below s args y 3 8 (PreOf R mc ms Pc) (PostOf Qc mc ms free) := va_backW (hh := hh) (bytes := bytes) (maxL := maxL) (ret := ret) hM hp.1 hrc hrs hfr hlo hws hcw (fun a' U hW => word_at hW (Or.inl (by first | rfl | simp [Cond.onTables, Cond.keeps, Cond.steady])) hini)
  obtain ⟨hx, hb, hml, ho, -⟩ := S
  obtain ⟨-, ⟨cellB, hcB, hoB, hclB⟩, hPc⟩ := hp
  intro T hT X
  obtain ⟨v, vm₁, ⟨U', l2, c2, s2⟩, hW₁, X', ⟨g', mk, t, L, e1, e2, hq, h1, hL, h2, h3⟩, st⟩ := vx_callVW X hx (C := C) (hh := hh) (bytes := bytes) (maxL := maxL) (ret := ret) ho hl hin hse hcode hy hK (by rw [hT]; exact hcB) hoB hclB hg (hsize.trans hml.symm) (argsL := As) (rest := rest) (fun sig h => hn.trans (hlen sig h)) hstack hW (by rw [hb]; exact hdg)
    (fun vm₁ hW₁ => ⟨hf.1, hf.2, hPc (T.setVm vm₁) hT hW₁⟩)
  dsimp only [Pt.U, Pt.locs, Pt.cells, Pt.slots] at X' e1 e2 h1 h2 h3 st
  subst h1; subst h2; subst h3
  exact ⟨v, (T.setVm vm₁).calling g' mk (Value.ref b :: As).toArray, t, U', L, hT, X', hL, e1, e2, hq, st⟩
section
variable {y : MethodName} {bytes cc : ByteArray} {maxL nL mc ms n index : Nat} {ret : Option FieldType} {ws : List Cond} {rm : Room} {Pc : Array Value → State → Prop} {Qc : Array Value → State → Outcome → State → Prop} {XC : String → State → State → Prop} {free : Addr → Prop} {Ts : List Cond} {own C : String} {b : Addr} {As rest : List Value} {g : JFrame}
theorem vx_runVX {hh : List (Nat × Nat × Nat × Nat)} (S : CallFix p m c cc nL s args Ts own) (hM : vx_Met l y ws rm Pc Qc XC mc ms free) (cw : vx_CVW R s args own C index y bytes maxL ret hh ws rm mc ms n) (hp : PreV s H C b Pc As)
    (hg : g.method = m) (hn : As.length = n) (hsize : g.locals.size = nL) (hstack : g.stack = As.reverse ++ .ref b :: rest) (hW : 2 * g.monitorRoom + (rest.map fun v => v.category).sum ≤ 8) (hdg : decode cc g.pc = .ok (.invokevirtual index, 3)) (hf : cells + mc ≤ R.cells ∧ slots + ms ≤ R.slots) :
    vx_Run p l e R s m args below meth c H locs cells slots mc ms g rest (Qc (Value.ref b :: As).toArray) XC free := by
  obtain ⟨⟨hrc, hrs, hfr, hlo, hws, hcw⟩, hcode, hini, hy, hlen, hl, hin, hse⟩ := cw
  have hK : vx_Back l R p e below s args y 3 8 (PreOf R mc ms Pc) (PostOf Qc mc ms free) (vx_Post XC mc ms free) := vx_backW (hh := hh) (bytes := bytes) (maxL := maxL) (ret := ret) hM hp.1 hrc hrs hfr hlo hws hcw (fun a' U hW => word_at hW (Or.inl (by first | rfl | simp [Cond.onTables, Cond.keeps, Cond.steady])) hini)
  obtain ⟨hx, hb, hml, ho, -⟩ := S
  obtain ⟨-, ⟨cellB, hcB, hoB, hclB⟩, hPc⟩ := hp
  intro T hT X
  rcases vx_callVX X hx (C := C) (hh := hh) (bytes := bytes) (maxL := maxL) (ret := ret) ho hl hin hse hcode hy hK (by rw [hT]; exact hcB) hoB hclB hg (hsize.trans hml.symm) (argsL := As) (rest := rest) (fun sig h => hn.trans (hlen sig h)) hstack hW (by rw [hb]; exact hdg)
    (fun vm₁ hW₁ => ⟨hf.1, hf.2, hPc (T.setVm vm₁) hT hW₁⟩) with ⟨v, vm₁, ⟨U', l2, c2, s2⟩, hW₁, X', ⟨g', mk, t, L, e1, e2, hq, h1, hL, h2, h3⟩, st⟩ | ⟨q, vm₁, ⟨U', l2, c2, s2⟩, hW₁, X', ⟨g', mk, t, L, E, ce, e1, e2, hq, hce, hcv, hcl, h1, hL, h2, h3⟩, st⟩
  · dsimp only [Pt.U, Pt.locs, Pt.cells, Pt.slots] at X' e1 e2 h1 h2 h3 st
    subst h1; subst h2; subst h3
    exact Or.inl ⟨v, (T.setVm vm₁).calling g' mk (Value.ref b :: As).toArray, t, U', L, hT, X', hL, e1, e2, hq, st⟩
  · dsimp only [Pt.U, Pt.locs, Pt.cells, Pt.slots] at X' e1 e2 h1 h2 h3 st hcl
    subst h1; subst h2; subst h3
    exact Or.inr ⟨q, (T.setVm vm₁).calling g' mk (Value.ref b :: As).toArray, t, U', L, E, ce, hT, X', hL, e1, e2, hq, hce, hcv, vx_cls hW₁ hcl, st⟩
theorem vx_runSX {hh : List (Nat × Nat × Nat × Nat)} (S : CallFix p m c cc nL s args Ts own) (hM : vx_Met l y ws rm Pc Qc XC mc ms free) (cw : vx_CSW R s args own index y bytes maxL ret hh ws rm mc ms n) (hp : PreS s H Pc As)
    (hg : g.method = m) (hn : As.length = n) (hsize : g.locals.size = nL) (hstack : g.stack = As.reverse ++ rest) (hW : 2 * g.monitorRoom + (rest.map fun v => v.category).sum ≤ 8) (hdg : decode cc g.pc = .ok (.invokestatic index, 3)) (hf : cells + mc ≤ R.cells ∧ slots + ms ≤ R.slots) :
    vx_Run p l e R s m args below meth c H locs cells slots mc ms g rest (Qc As.toArray) XC free := by
  obtain ⟨⟨hrc, hrs, hfr, hlo, hws, hcw⟩, hcode, hini, hy, hlen, hl, hstt⟩ := cw
  have hK : vx_Back l R p e below s args y 3 8 (PreOf R mc ms Pc) (PostOf Qc mc ms free) (vx_Post XC mc ms free) := vx_backW (hh := hh) (bytes := bytes) (maxL := maxL) (ret := ret) hM hp.1 hrc hrs hfr hlo hws hcw (fun a' U hW => word_at hW (Or.inl (by first | rfl | simp [Cond.onTables, Cond.keeps, Cond.steady])) hini)
  obtain ⟨hx, hb, hml, ho, -⟩ := S
  intro T hT X
  rcases vx_callSX X hx (hh := hh) (bytes := bytes) (maxL := maxL) (ret := ret) ho hl hstt hini hcode hy hK hg (hsize.trans hml.symm) (argsL := As) (rest := rest) (fun sig h => hn.trans (hlen sig h)) hstack hW (by rw [hb]; exact hdg)
    (fun vm₁ hW₁ => ⟨hf.1, hf.2, hp.2 (T.setVm vm₁) hT hW₁⟩) with ⟨v, vm₁, ⟨U', l2, c2, s2⟩, hW₁, X', ⟨g', mk, t, L, e1, e2, hq, h1, hL, h2, h3⟩, st⟩ | ⟨q, vm₁, ⟨U', l2, c2, s2⟩, hW₁, X', ⟨g', mk, t, L, E, ce, e1, e2, hq, hce, hcv, hcl, h1, hL, h2, h3⟩, st⟩
  · dsimp only [Pt.U, Pt.locs, Pt.cells, Pt.slots] at X' e1 e2 h1 h2 h3 st
    subst h1; subst h2; subst h3
    exact Or.inl ⟨v, (T.setVm vm₁).calling g' mk As.toArray, t, U', L, hT, X', hL, e1, e2, hq, st⟩
  · dsimp only [Pt.U, Pt.locs, Pt.cells, Pt.slots] at X' e1 e2 h1 h2 h3 st hcl
    subst h1; subst h2; subst h3
    exact Or.inr ⟨q, (T.setVm vm₁).calling g' mk As.toArray, t, U', L, E, ce, hT, X', hL, e1, e2, hq, hce, hcv, vx_cls hW₁ hcl, st⟩
end
end VXH
theorem vx_ofWH {l : Launch} {y : MethodName} {ws ws' : List Cond} {rm : Room} {Pc : Array Value → State → Prop} {Qc : Array Value → State → Outcome → State → Prop} {XC : String → State → State → Prop} {mc ms : Nat} {free : Addr → Prop} {cc : ByteArray} {maxL : Nat} {ret : Option FieldType} {hh : List (Nat × Nat × Nat × Nat)}
    (hy : plainName y.cls = true) (hw : ws = Cond.codeWith y cc maxL ret hh :: ws')
    (body : ∀ p e s m args below meth c s₁, BodyLoose p l y (headSpec ws rm) cc maxL ret e s m args below meth c s₁ → c.maxLocals = maxL → Pc args s →
      W p l e (headSpec ws rm).room s m args below meth c s.heap [] 0 0 (vx_MQ below Qc XC args s mc ms free) (entryFrame m args maxL)) : vx_Met l y ws rm Pc Qc XC mc ms free := by
  refine MetFree.of_bodyS (code := cc) (maxLocals := maxL) (ret := ret) hy ?_ ?_
  · intro args s m h hn
    obtain ⟨m9, meth, c, hn9, h1, h2, h3, h4, -, h5, h6, -⟩ := Cond.codeWith_spec (atoms_spec (ws := ws) h _ (by rw [hw]; exact List.mem_cons_self))
    cases hn.symm.trans hn9
    exact ⟨meth, c, h1, h2, h3, h4, h5, h6⟩
  · intro p e s m args below meth c s₁ B hml hP _
    have hh0 : s₁.heap = s.heap := by rw [B.state]; rfl
    obtain ⟨t, a1, o, b1, b2, b3⟩ := body p e s m args below meth c s₁ B hml hP s₁ hh0 (Stand.of_body B)
    exact ⟨t, o, a1, b1, b2, b3⟩
/-! ===== END ===== -/
end
section
/-! NAMES: written by program out of the Statement, NAMES.json and the listing -/
def R_T : String := "LinearRows$Table"
def R_S : String := "LinearRows$Shape"
def R_X : String := "LinearRows"
def R_M : String := "LinearRowsModel"
def R_L : String := "LinearRowsLaw"
def R_JM : String := "java/lang/Math"
def R_JA : String := "java/util/Arrays"
def F_T : u_T := fun k => match k with
  | 0 => ("LinearRows$Table", "size", "I", true)
  | _ => ("LinearRows$Table", "cells", "[J", true)
def tt_T : Nat → FieldType := fun k => match k with
  | 0 => .int
  | _ => .array .long
theorem n_T : ∀ a, a < 2 → ∀ b, b < 2 → a ≠ b → (F_T a).2.1 ≠ (F_T b).2.1 := by decide +kernel
theorem tt_T_ok : ∀ k, k < 2 → parseFieldDescriptor (F_T k).2.2.1 = some (tt_T k) := by decide +kernel
def F_S : u_T := fun k => match k with
  | 0 => ("LinearRows$Shape", "size", "I", true)
  | 1 => ("LinearRows$Shape", "keptRows", "LLinearRows$Table;", true)
  | 2 => ("LinearRows$Shape", "bounds", "LLinearRows$Table;", true)
  | _ => ("LinearRows$Shape", "empty", "Z", false)
def tt_S : Nat → FieldType := fun k => match k with
  | 0 => .int
  | 1 => .object "LinearRows$Table"
  | 2 => .object "LinearRows$Table"
  | _ => .boolean
theorem n_S : ∀ a, a < 4 → ∀ b, b < 4 → a ≠ b → (F_S a).2.1 ≠ (F_S b).2.1 := by decide +kernel
theorem tt_S_ok : ∀ k, k < 4 → parseFieldDescriptor (F_S k).2.2.1 = some (tt_S k) := by decide +kernel
def F_X : u_T := fun k => match k with
  | 0 => ("LinearRows", "names", "I", true)
  | 1 => ("LinearRows", "places", "I", true)
  | 2 => ("LinearRows", "shapes", "[LLinearRows$Shape;", true)
  | 3 => ("LinearRows", "made", "LLinearRows$Shape;", true)
  | 4 => ("LinearRows", "left", "LLinearRows$Table;", true)
  | 5 => ("LinearRows", "trial", "LLinearRows$Table;", true)
  | 6 => ("LinearRows", "numbers", "[J", true)
  | 7 => ("LinearRows", "neededRows", "[J", true)
  | _ => ("LinearRows", "neededCount", "I", false)
def tt_X : Nat → FieldType := fun k => match k with
  | 0 => .int
  | 1 => .int
  | 2 => .array (.object "LinearRows$Shape")
  | 3 => .object "LinearRows$Shape"
  | 4 => .object "LinearRows$Table"
  | 5 => .object "LinearRows$Table"
  | 6 => .array .long
  | 7 => .array .long
  | _ => .int
theorem n_X : ∀ a, a < 9 → ∀ b, b < 9 → a ≠ b → (F_X a).2.1 ≠ (F_X b).2.1 := by decide +kernel
theorem tt_X_ok : ∀ k, k < 9 → parseFieldDescriptor (F_X k).2.2.1 = some (tt_X k) := by decide +kernel
def F_M : u_T := fun k => match k with
  | 0 => ("LinearRowsModel", "thrown", "I", false)
  | 1 => ("LinearRowsModel", "n", "I", true)
  | 2 => ("LinearRowsModel", "rows", "[J", true)
  | 3 => ("LinearRowsModel", "isEmpty", "[Z", true)
  | 4 => ("LinearRowsModel", "d", "[J", true)
  | 5 => ("LinearRowsModel", "other", "[J", true)
  | 6 => ("LinearRowsModel", "made", "[J", true)
  | 7 => ("LinearRowsModel", "point", "[J", true)
  | 8 => ("LinearRowsModel", "needMany", "I", false)
  | 9 => ("LinearRowsModel", "needA", "[I", true)
  | 10 => ("LinearRowsModel", "needB", "[I", true)
  | 11 => ("LinearRowsModel", "needC", "[J", true)
  | _ => ("LinearRowsModel", "isLeft", "[Z", true)
def tt_M : Nat → FieldType := fun k => match k with
  | 0 => .int
  | 1 => .int
  | 2 => .array .long
  | 3 => .array .boolean
  | 4 => .array .long
  | 5 => .array .long
  | 6 => .array .long
  | 7 => .array .long
  | 8 => .int
  | 9 => .array .int
  | 10 => .array .int
  | 11 => .array .long
  | _ => .array .boolean
theorem n_M : ∀ a, a < 13 → ∀ b, b < 13 → a ≠ b → (F_M a).2.1 ≠ (F_M b).2.1 := by decide +kernel
theorem tt_M_ok : ∀ k, k < 13 → parseFieldDescriptor (F_M k).2.2.1 = some (tt_M k) := by decide +kernel
abbrev classes : List vw_C := [(R_T, F_T, 2), (R_S, F_S, 4), (R_X, F_X, 9), (R_M, F_M, 13)]
def wG : List Cond := lw_tbl.filter goodWord
abbrev b_X_init : ByteArray := prog_1_method_1_code
def y_X_init : MethodName := ⟨R_X, "<init>", "(I)V"⟩
abbrev w_X_init : List Cond := .code y_X_init b_X_init 3 none :: wG
abbrev b_X_all : ByteArray := prog_1_method_2_code
def y_X_all : MethodName := ⟨R_X, "all", "(I)V"⟩
abbrev w_X_all : List Cond := .code y_X_all b_X_all 2 none :: wG
abbrev b_X_row : ByteArray := prog_1_method_3_code
def y_X_row : MethodName := ⟨R_X, "row", "(IIIJ)I"⟩
abbrev w_X_row : List Cond := .code y_X_row b_X_row 6 (some .int) :: wG
abbrev b_X_bound : ByteArray := prog_1_method_4_code
def y_X_bound : MethodName := ⟨R_X, "bound", "(III)J"⟩
abbrev w_X_bound : List Cond := .code y_X_bound b_X_bound 4 (some .long) :: wG
abbrev b_X_kept : ByteArray := prog_1_method_5_code
def y_X_kept : MethodName := ⟨R_X, "kept", "(III)J"⟩
abbrev w_X_kept : List Cond := .code y_X_kept b_X_kept 4 (some .long) :: wG
abbrev b_X_meet : ByteArray := prog_1_method_6_code
def y_X_meet : MethodName := ⟨R_X, "meet", "(III)I"⟩
abbrev w_X_meet : List Cond := .code y_X_meet b_X_meet 4 (some .int) :: wG
abbrev b_X_join : ByteArray := prog_1_method_7_code
def y_X_join : MethodName := ⟨R_X, "join", "(III)I"⟩
abbrev w_X_join : List Cond := .code y_X_join b_X_join 4 (some .int) :: wG
abbrev b_X_widen : ByteArray := prog_1_method_8_code
def y_X_widen : MethodName := ⟨R_X, "widen", "(III)I"⟩
abbrev w_X_widen : List Cond := .code y_X_widen b_X_widen 4 (some .int) :: wG
abbrev b_X_narrow : ByteArray := prog_1_method_9_code
def y_X_narrow : MethodName := ⟨R_X, "narrow", "(III)I"⟩
abbrev w_X_narrow : List Cond := .code y_X_narrow b_X_narrow 4 (some .int) :: wG
abbrev b_X_copy : ByteArray := prog_1_method_10_code
def y_X_copy : MethodName := ⟨R_X, "copy", "(II)V"⟩
abbrev w_X_copy : List Cond := .code y_X_copy b_X_copy 3 none :: wG
abbrev b_X_set : ByteArray := prog_1_method_11_code
def y_X_set : MethodName := ⟨R_X, "set", "(IIIJ)I"⟩
abbrev w_X_set : List Cond := .code y_X_set b_X_set 6 (some .int) :: wG
abbrev b_X_forget : ByteArray := prog_1_method_12_code
def y_X_forget : MethodName := ⟨R_X, "forget", "(II)I"⟩
abbrev w_X_forget : List Cond := .code y_X_forget b_X_forget 3 (some .int) :: wG
abbrev b_X_within : ByteArray := prog_1_method_13_code
def y_X_within : MethodName := ⟨R_X, "within", "(II)Z"⟩
abbrev w_X_within : List Cond := .code y_X_within b_X_within 3 (some .boolean) :: wG
abbrev b_X_put : ByteArray := prog_1_method_14_code
def y_X_put : MethodName := ⟨R_X, "put", "(IJ)J"⟩
abbrev w_X_put : List Cond := .code y_X_put b_X_put 6 (some .long) :: wG
abbrev b_X_point : ByteArray := prog_1_method_15_code
def y_X_point : MethodName := ⟨R_X, "point", "(I)J"⟩
abbrev w_X_point : List Cond := .code y_X_point b_X_point 2 (some .long) :: wG
abbrev b_X_has : ByteArray := prog_1_method_16_code
def y_X_has : MethodName := ⟨R_X, "has", "(I)Z"⟩
abbrev w_X_has : List Cond := .code y_X_has b_X_has 4 (some .boolean) :: wG
abbrev b_X_sample : ByteArray := prog_1_method_17_code
def y_X_sample : MethodName := ⟨R_X, "sample", "(I)Z"⟩
abbrev w_X_sample : List Cond := .code y_X_sample b_X_sample 3 (some .boolean) :: wG
abbrev b_X_needed : ByteArray := prog_1_method_18_code
def y_X_needed : MethodName := ⟨R_X, "needed", "(I)I"⟩
abbrev w_X_needed : List Cond := .code y_X_needed b_X_needed 2 (some .int) :: wG
abbrev b_X_needs : ByteArray := prog_1_method_19_code
def y_X_needs : MethodName := ⟨R_X, "needs", "(II)J"⟩
abbrev w_X_needs : List Cond := .code y_X_needs b_X_needs 3 (some .long) :: wG
abbrev b_X_fits : ByteArray := prog_1_method_20_code
def y_X_fits : MethodName := ⟨R_X, "fits", "(III)Z"⟩
abbrev w_X_fits : List Cond := .code y_X_fits b_X_fits 6 (some .boolean) :: wG
abbrev b_X_array : ByteArray := prog_1_method_21_code
def y_X_array : MethodName := ⟨R_X, "array", "(III)I"⟩
abbrev w_X_array : List Cond := .code y_X_array b_X_array 5 (some .int) :: wG
abbrev b_X_told : ByteArray := prog_1_method_22_code
def y_X_told : MethodName := ⟨R_X, "told", "(I)I"⟩
abbrev w_X_told : List Cond := .code y_X_told b_X_told 2 (some .int) :: wG
abbrev b_X_checkShape : ByteArray := prog_1_method_23_code
def y_X_checkShape : MethodName := ⟨R_X, "checkShape", "(I)V"⟩
abbrev w_X_checkShape : List Cond := .code y_X_checkShape b_X_checkShape 1 none :: wG
abbrev b_X_checkShapes : ByteArray := prog_1_method_24_code
def y_X_checkShapes : MethodName := ⟨R_X, "checkShapes", "(III)V"⟩
abbrev w_X_checkShapes : List Cond := .code y_X_checkShapes b_X_checkShapes 3 none :: wG
abbrev b_X_checkName : ByteArray := prog_1_method_25_code
def y_X_checkName : MethodName := ⟨R_X, "checkName", "(I)V"⟩
abbrev w_X_checkName : List Cond := .code y_X_checkName b_X_checkName 2 none :: wG
abbrev b_X_checkTerm : ByteArray := prog_1_method_26_code
def y_X_checkTerm : MethodName := ⟨R_X, "checkTerm", "(I)V"⟩
abbrev w_X_checkTerm : List Cond := .code y_X_checkTerm b_X_checkTerm 2 none :: wG
abbrev b_X_checkGiven : ByteArray := prog_1_method_27_code
def y_X_checkGiven : MethodName := ⟨R_X, "checkGiven", "(J)V"⟩
abbrev w_X_checkGiven : List Cond := .code y_X_checkGiven b_X_checkGiven 2 none :: wG
abbrev b_X_placeOf : ByteArray := prog_1_method_28_code
def y_X_placeOf : MethodName := ⟨R_X, "placeOf", "(I)I"⟩
abbrev w_X_placeOf : List Cond := .code y_X_placeOf b_X_placeOf 1 (some .int) :: wG
abbrev b_X_termAt : ByteArray := prog_1_method_29_code
def y_X_termAt : MethodName := ⟨R_X, "termAt", "(I)I"⟩
abbrev w_X_termAt : List Cond := .code y_X_termAt b_X_termAt 2 (some .int) :: wG
abbrev b_X_placeOfNextName : ByteArray := prog_1_method_30_code
def y_X_placeOfNextName : MethodName := ⟨R_X, "placeOfNextName", "(I)I"⟩
abbrev w_X_placeOfNextName : List Cond := .code y_X_placeOfNextName b_X_placeOfNextName 1 (some .int) :: wG
abbrev b_X_plus : ByteArray := prog_1_method_31_code
def y_X_plus : MethodName := ⟨R_X, "plus", "(JJ)J"⟩
abbrev w_X_plus : List Cond := .code y_X_plus b_X_plus 4 (some .long) :: wG
abbrev b_X_takeMade : ByteArray := prog_1_method_32_code
def y_X_takeMade : MethodName := ⟨R_X, "takeMade", "(I)I"⟩
abbrev w_X_takeMade : List Cond := .code y_X_takeMade b_X_takeMade 2 (some .int) :: wG
abbrev b_X_countEmpty : ByteArray := prog_1_method_33_code
def y_X_countEmpty : MethodName := ⟨R_X, "countEmpty", "()I"⟩
abbrev w_X_countEmpty : List Cond := .code y_X_countEmpty b_X_countEmpty 3 (some .int) :: wG
abbrev b_X_numberAt : ByteArray := prog_1_method_34_code
def y_X_numberAt : MethodName := ⟨R_X, "numberAt", "(I)J"⟩
abbrev w_X_numberAt : List Cond := .code y_X_numberAt b_X_numberAt 4 (some .long) :: wG
abbrev b_X_sampleNumber : ByteArray := prog_1_method_35_code
def y_X_sampleNumber : MethodName := ⟨R_X, "sampleNumber", "(LLinearRows$Table;I)J"⟩
abbrev w_X_sampleNumber : List Cond := .code y_X_sampleNumber b_X_sampleNumber 7 (some .long) :: wG
abbrev b_X_greatestBeside : ByteArray := prog_1_method_36_code
def y_X_greatestBeside : MethodName := ⟨R_X, "greatestBeside", "(LLinearRows$Table;I)J"⟩
abbrev w_X_greatestBeside : List Cond := .code y_X_greatestBeside b_X_greatestBeside 7 (some .long) :: wG
abbrev b_X_leaveOutPairs : ByteArray := prog_1_method_37_code
def y_X_leaveOutPairs : MethodName := ⟨R_X, "leaveOutPairs", "()V"⟩
abbrev w_X_leaveOutPairs : List Cond := .code y_X_leaveOutPairs b_X_leaveOutPairs 3 none :: wG
abbrev b_X_leaveOutSingles : ByteArray := prog_1_method_38_code
def y_X_leaveOutSingles : MethodName := ⟨R_X, "leaveOutSingles", "()V"⟩
abbrev w_X_leaveOutSingles : List Cond := .code y_X_leaveOutSingles b_X_leaveOutSingles 2 none :: wG
abbrev b_X_leaveOutUnlessNeeded : ByteArray := prog_1_method_39_code
def y_X_leaveOutUnlessNeeded : MethodName := ⟨R_X, "leaveOutUnlessNeeded", "(II)V"⟩
abbrev w_X_leaveOutUnlessNeeded : List Cond := .code y_X_leaveOutUnlessNeeded b_X_leaveOutUnlessNeeded 5 none :: wG
abbrev b_X_tellLeftRows : ByteArray := prog_1_method_40_code
def y_X_tellLeftRows : MethodName := ⟨R_X, "tellLeftRows", "()V"⟩
abbrev w_X_tellLeftRows : List Cond := .code y_X_tellLeftRows b_X_tellLeftRows 3 none :: wG
abbrev b_X_tellRow : ByteArray := prog_1_method_41_code
def y_X_tellRow : MethodName := ⟨R_X, "tellRow", "(IIJ)V"⟩
abbrev w_X_tellRow : List Cond := .code y_X_tellRow b_X_tellRow 6 none :: wG
abbrev b_M_init : ByteArray := prog_5_method_1_code
def y_M_init : MethodName := ⟨R_M, "<init>", "(I)V"⟩
abbrev w_M_init : List Cond := .code y_M_init b_M_init 3 none :: wG
abbrev b_M_thrown : ByteArray := prog_5_method_2_code
def y_M_thrown : MethodName := ⟨R_M, "thrown", "()I"⟩
abbrev w_M_thrown : List Cond := .code y_M_thrown b_M_thrown 1 (some .int) :: wG
abbrev b_M_isShape : ByteArray := prog_5_method_3_code
def y_M_isShape : MethodName := ⟨R_M, "isShape", "(I)Z"⟩
abbrev w_M_isShape : List Cond := .code y_M_isShape b_M_isShape 2 (some .boolean) :: wG
abbrev b_M_isName : ByteArray := prog_5_method_4_code
def y_M_isName : MethodName := ⟨R_M, "isName", "(I)Z"⟩
abbrev w_M_isName : List Cond := .code y_M_isName b_M_isName 2 (some .boolean) :: wG
abbrev b_M_isTerm : ByteArray := prog_5_method_5_code
def y_M_isTerm : MethodName := ⟨R_M, "isTerm", "(I)Z"⟩
abbrev w_M_isTerm : List Cond := .code y_M_isTerm b_M_isTerm 2 (some .boolean) :: wG
abbrev b_M_at : ByteArray := prog_5_method_6_code
def y_M_at : MethodName := ⟨R_M, "at", "(I)I"⟩
abbrev w_M_at : List Cond := .code y_M_at b_M_at 1 (some .int) :: wG
abbrev b_M_opposite : ByteArray := prog_5_method_7_code
def y_M_opposite : MethodName := ⟨R_M, "opposite", "(I)I"⟩
abbrev w_M_opposite : List Cond := .code y_M_opposite b_M_opposite 1 (some .int) :: wG
abbrev b_M_half : ByteArray := prog_5_method_8_code
def y_M_half : MethodName := ⟨R_M, "half", "(J)J"⟩
abbrev w_M_half : List Cond := .code y_M_half b_M_half 2 (some .long) :: wG
abbrev b_M_sum : ByteArray := prog_5_method_9_code
def y_M_sum : MethodName := ⟨R_M, "sum", "(JJ)J"⟩
abbrev w_M_sum : List Cond := .code y_M_sum b_M_sum 4 (some .long) :: wG
abbrev b_M_loadRows : ByteArray := prog_5_method_10_code
def y_M_loadRows : MethodName := ⟨R_M, "loadRows", "(I)V"⟩
abbrev w_M_loadRows : List Cond := .code y_M_loadRows b_M_loadRows 3 none :: wG
abbrev b_M_close : ByteArray := prog_5_method_11_code
def y_M_close : MethodName := ⟨R_M, "close", "()Z"⟩
abbrev w_M_close : List Cond := .code y_M_close b_M_close 8 (some .boolean) :: wG
abbrev b_M_isFar : ByteArray := prog_5_method_12_code
def y_M_isFar : MethodName := ⟨R_M, "isFar", "()Z"⟩
abbrev w_M_isFar : List Cond := .code y_M_isFar b_M_isFar 7 (some .boolean) :: wG
abbrev b_M_closeMade : ByteArray := prog_5_method_13_code
def y_M_closeMade : MethodName := ⟨R_M, "closeMade", "()Z"⟩
abbrev w_M_closeMade : List Cond := .code y_M_closeMade b_M_closeMade 5 (some .boolean) :: wG
abbrev b_M_keepMade : ByteArray := prog_5_method_14_code
def y_M_keepMade : MethodName := ⟨R_M, "keepMade", "(I)V"⟩
abbrev w_M_keepMade : List Cond := .code y_M_keepMade b_M_keepMade 4 none :: wG
abbrev b_M_closeShape : ByteArray := prog_5_method_15_code
def y_M_closeShape : MethodName := ⟨R_M, "closeShape", "(I)Z"⟩
abbrev w_M_closeShape : List Cond := .code y_M_closeShape b_M_closeShape 2 (some .boolean) :: wG
abbrev b_M_copyTable : ByteArray := prog_5_method_16_code
def y_M_copyTable : MethodName := ⟨R_M, "copyTable", "(Z)V"⟩
abbrev w_M_copyTable : List Cond := .code y_M_copyTable b_M_copyTable 3 none :: wG
abbrev b_M_none : ByteArray := prog_5_method_17_code
def y_M_none : MethodName := ⟨R_M, "none", "(I)V"⟩
abbrev w_M_none : List Cond := .code y_M_none b_M_none 3 none :: wG
abbrev b_M_keepClosed : ByteArray := prog_5_method_18_code
def y_M_keepClosed : MethodName := ⟨R_M, "keepClosed", "(IZ)I"⟩
abbrev w_M_keepClosed : List Cond := .code y_M_keepClosed b_M_keepClosed 7 (some .int) :: wG
abbrev b_M_addRow : ByteArray := prog_5_method_19_code
def y_M_addRow : MethodName := ⟨R_M, "addRow", "(IIJ)V"⟩
abbrev w_M_addRow : List Cond := .code y_M_addRow b_M_addRow 9 none :: wG
abbrev b_M_boundOf : ByteArray := prog_5_method_20_code
def y_M_boundOf : MethodName := ⟨R_M, "boundOf", "(II)J"⟩
abbrev w_M_boundOf : List Cond := .code y_M_boundOf b_M_boundOf 5 (some .long) :: wG
abbrev b_M_all : ByteArray := prog_5_method_21_code
def y_M_all : MethodName := ⟨R_M, "all", "(I)V"⟩
abbrev w_M_all : List Cond := .code y_M_all b_M_all 2 none :: wG
abbrev b_M_isSmall : ByteArray := prog_5_method_22_code
def y_M_isSmall : MethodName := ⟨R_M, "isSmall", "(J)Z"⟩
abbrev w_M_isSmall : List Cond := .code y_M_isSmall b_M_isSmall 2 (some .boolean) :: wG
abbrev b_M_row : ByteArray := prog_5_method_23_code
def y_M_row : MethodName := ⟨R_M, "row", "(IIIJ)I"⟩
abbrev w_M_row : List Cond := .code y_M_row b_M_row 12 (some .int) :: wG
abbrev b_M_bound : ByteArray := prog_5_method_24_code
def y_M_bound : MethodName := ⟨R_M, "bound", "(III)J"⟩
abbrev w_M_bound : List Cond := .code y_M_bound b_M_bound 4 (some .long) :: wG
abbrev b_M_kept : ByteArray := prog_5_method_25_code
def y_M_kept : MethodName := ⟨R_M, "kept", "(III)J"⟩
abbrev w_M_kept : List Cond := .code y_M_kept b_M_kept 4 (some .long) :: wG
abbrev b_M_areShapes : ByteArray := prog_5_method_26_code
def y_M_areShapes : MethodName := ⟨R_M, "areShapes", "(III)Z"⟩
abbrev w_M_areShapes : List Cond := .code y_M_areShapes b_M_areShapes 4 (some .boolean) :: wG
abbrev b_M_meet : ByteArray := prog_5_method_27_code
def y_M_meet : MethodName := ⟨R_M, "meet", "(III)I"⟩
abbrev w_M_meet : List Cond := .code y_M_meet b_M_meet 5 (some .int) :: wG
abbrev b_M_join : ByteArray := prog_5_method_28_code
def y_M_join : MethodName := ⟨R_M, "join", "(III)I"⟩
abbrev w_M_join : List Cond := .code y_M_join b_M_join 7 (some .int) :: wG
abbrev b_M_widen : ByteArray := prog_5_method_29_code
def y_M_widen : MethodName := ⟨R_M, "widen", "(III)I"⟩
abbrev w_M_widen : List Cond := .code y_M_widen b_M_widen 11 (some .int) :: wG
abbrev b_M_narrow : ByteArray := prog_5_method_30_code
def y_M_narrow : MethodName := ⟨R_M, "narrow", "(III)I"⟩
abbrev w_M_narrow : List Cond := .code y_M_narrow b_M_narrow 12 (some .int) :: wG
abbrev b_M_copyRows : ByteArray := prog_5_method_31_code
def y_M_copyRows : MethodName := ⟨R_M, "copyRows", "(II)V"⟩
abbrev w_M_copyRows : List Cond := .code y_M_copyRows b_M_copyRows 4 none :: wG
abbrev b_M_copy : ByteArray := prog_5_method_32_code
def y_M_copy : MethodName := ⟨R_M, "copy", "(II)V"⟩
abbrev w_M_copy : List Cond := .code y_M_copy b_M_copy 3 none :: wG
abbrev b_M_drop : ByteArray := prog_5_method_33_code
def y_M_drop : MethodName := ⟨R_M, "drop", "(I)V"⟩
abbrev w_M_drop : List Cond := .code y_M_drop b_M_drop 4 none :: wG
abbrev b_M_set : ByteArray := prog_5_method_34_code
def y_M_set : MethodName := ⟨R_M, "set", "(IIIJ)I"⟩
abbrev w_M_set : List Cond := .code y_M_set b_M_set 7 (some .int) :: wG
abbrev b_M_turn : ByteArray := prog_5_method_35_code
def y_M_turn : MethodName := ⟨R_M, "turn", "(IZJ)V"⟩
abbrev w_M_turn : List Cond := .code y_M_turn b_M_turn 12 none :: wG
abbrev b_M_forget : ByteArray := prog_5_method_36_code
def y_M_forget : MethodName := ⟨R_M, "forget", "(II)I"⟩
abbrev w_M_forget : List Cond := .code y_M_forget b_M_forget 3 (some .int) :: wG
abbrev b_M_within : ByteArray := prog_5_method_37_code
def y_M_within : MethodName := ⟨R_M, "within", "(II)Z"⟩
abbrev w_M_within : List Cond := .code y_M_within b_M_within 10 (some .boolean) :: wG
abbrev b_M_put : ByteArray := prog_5_method_38_code
def y_M_put : MethodName := ⟨R_M, "put", "(IJ)J"⟩
abbrev w_M_put : List Cond := .code y_M_put b_M_put 6 (some .long) :: wG
abbrev b_M_point : ByteArray := prog_5_method_39_code
def y_M_point : MethodName := ⟨R_M, "point", "(I)J"⟩
abbrev w_M_point : List Cond := .code y_M_point b_M_point 2 (some .long) :: wG
abbrev b_M_valueAt : ByteArray := prog_5_method_40_code
def y_M_valueAt : MethodName := ⟨R_M, "valueAt", "(I)J"⟩
abbrev w_M_valueAt : List Cond := .code y_M_valueAt b_M_valueAt 2 (some .long) :: wG
abbrev b_M_has : ByteArray := prog_5_method_41_code
def y_M_has : MethodName := ⟨R_M, "has", "(I)Z"⟩
abbrev w_M_has : List Cond := .code y_M_has b_M_has 7 (some .boolean) :: wG
abbrev b_M_sample : ByteArray := prog_5_method_42_code
def y_M_sample : MethodName := ⟨R_M, "sample", "(I)Z"⟩
abbrev w_M_sample : List Cond := .code y_M_sample b_M_sample 8 (some .boolean) :: wG
abbrev b_M_termOf : ByteArray := prog_5_method_43_code
def y_M_termOf : MethodName := ⟨R_M, "termOf", "(I)I"⟩
abbrev w_M_termOf : List Cond := .code y_M_termOf b_M_termOf 1 (some .int) :: wG
abbrev b_M_listRow : ByteArray := prog_5_method_44_code
def y_M_listRow : MethodName := ⟨R_M, "listRow", "(II)V"⟩
abbrev w_M_listRow : List Cond := .code y_M_listRow b_M_listRow 5 none :: wG
abbrev b_M_needed : ByteArray := prog_5_method_45_code
def y_M_needed : MethodName := ⟨R_M, "needed", "(I)I"⟩
abbrev w_M_needed : List Cond := .code y_M_needed b_M_needed 4 (some .int) :: wG
abbrev b_M_needs : ByteArray := prog_5_method_46_code
def y_M_needs : MethodName := ⟨R_M, "needs", "(II)J"⟩
abbrev w_M_needs : List Cond := .code y_M_needs b_M_needs 3 (some .long) :: wG
abbrev b_M_fits : ByteArray := prog_5_method_47_code
def y_M_fits : MethodName := ⟨R_M, "fits", "(III)Z"⟩
abbrev w_M_fits : List Cond := .code y_M_fits b_M_fits 6 (some .boolean) :: wG
abbrev b_M_array : ByteArray := prog_5_method_48_code
def y_M_array : MethodName := ⟨R_M, "array", "(III)I"⟩
abbrev w_M_array : List Cond := .code y_M_array b_M_array 4 (some .int) :: wG
abbrev b_M_told : ByteArray := prog_5_method_49_code
def y_M_told : MethodName := ⟨R_M, "told", "(I)I"⟩
abbrev w_M_told : List Cond := .code y_M_told b_M_told 5 (some .int) :: wG
abbrev b_S_init : ByteArray := prog_2_method_1_code
def y_S_init : MethodName := ⟨R_S, "<init>", "(I)V"⟩
abbrev w_S_init : List Cond := .code y_S_init b_S_init 2 none :: wG
abbrev b_S_becomeAll : ByteArray := prog_2_method_2_code
def y_S_becomeAll : MethodName := ⟨R_S, "becomeAll", "()V"⟩
abbrev w_S_becomeAll : List Cond := .code y_S_becomeAll b_S_becomeAll 1 none :: wG
abbrev b_S_becomeEmpty : ByteArray := prog_2_method_3_code
def y_S_becomeEmpty : MethodName := ⟨R_S, "becomeEmpty", "()V"⟩
abbrev w_S_becomeEmpty : List Cond := .code y_S_becomeEmpty b_S_becomeEmpty 1 none :: wG
abbrev b_S_becomeLike : ByteArray := prog_2_method_4_code
def y_S_becomeLike : MethodName := ⟨R_S, "becomeLike", "(LLinearRows$Shape;)V"⟩
abbrev w_S_becomeLike : List Cond := .code y_S_becomeLike b_S_becomeLike 2 none :: wG
abbrev b_S_greatest : ByteArray := prog_2_method_5_code
def y_S_greatest : MethodName := ⟨R_S, "greatest", "(II)J"⟩
abbrev w_S_greatest : List Cond := .code y_S_greatest b_S_greatest 3 (some .long) :: wG
abbrev b_S_addRow : ByteArray := prog_2_method_6_code
def y_S_addRow : MethodName := ⟨R_S, "addRow", "(IIJ)V"⟩
abbrev w_S_addRow : List Cond := .code y_S_addRow b_S_addRow 6 none :: wG
abbrev b_S_becomeMeeting : ByteArray := prog_2_method_7_code
def y_S_becomeMeeting : MethodName := ⟨R_S, "becomeMeeting", "(LLinearRows$Shape;LLinearRows$Shape;)V"⟩
abbrev w_S_becomeMeeting : List Cond := .code y_S_becomeMeeting b_S_becomeMeeting 5 none :: wG
abbrev b_S_becomeJoin : ByteArray := prog_2_method_8_code
def y_S_becomeJoin : MethodName := ⟨R_S, "becomeJoin", "(LLinearRows$Shape;LLinearRows$Shape;)V"⟩
abbrev w_S_becomeJoin : List Cond := .code y_S_becomeJoin b_S_becomeJoin 5 none :: wG
abbrev b_S_becomeWidened : ByteArray := prog_2_method_9_code
def y_S_becomeWidened : MethodName := ⟨R_S, "becomeWidened", "(LLinearRows$Shape;LLinearRows$Shape;)V"⟩
abbrev w_S_becomeWidened : List Cond := .code y_S_becomeWidened b_S_becomeWidened 7 none :: wG
abbrev b_S_becomeNarrowed : ByteArray := prog_2_method_10_code
def y_S_becomeNarrowed : MethodName := ⟨R_S, "becomeNarrowed", "(LLinearRows$Shape;LLinearRows$Shape;)V"⟩
abbrev w_S_becomeNarrowed : List Cond := .code y_S_becomeNarrowed b_S_becomeNarrowed 6 none :: wG
abbrev b_S_becomeAssigned : ByteArray := prog_2_method_11_code
def y_S_becomeAssigned : MethodName := ⟨R_S, "becomeAssigned", "(LLinearRows$Shape;IIJ)V"⟩
abbrev w_S_becomeAssigned : List Cond := .code y_S_becomeAssigned b_S_becomeAssigned 10 none :: wG
abbrev b_S_becomeFree : ByteArray := prog_2_method_12_code
def y_S_becomeFree : MethodName := ⟨R_S, "becomeFree", "(LLinearRows$Shape;I)V"⟩
abbrev w_S_becomeFree : List Cond := .code y_S_becomeFree b_S_becomeFree 4 none :: wG
abbrev b_S_sourceOf : ByteArray := prog_2_method_13_code
def y_S_sourceOf : MethodName := ⟨R_S, "sourceOf", "(III)I"⟩
abbrev w_S_sourceOf : List Cond := .code y_S_sourceOf b_S_sourceOf 4 (some .int) :: wG
abbrev b_S_addedTo : ByteArray := prog_2_method_14_code
def y_S_addedTo : MethodName := ⟨R_S, "addedTo", "(IIJ)J"⟩
abbrev w_S_addedTo : List Cond := .code y_S_addedTo b_S_addedTo 5 (some .long) :: wG
abbrev b_S_closeKeptRows : ByteArray := prog_2_method_15_code
def y_S_closeKeptRows : MethodName := ⟨R_S, "closeKeptRows", "()V"⟩
abbrev w_S_closeKeptRows : List Cond := .code y_S_closeKeptRows b_S_closeKeptRows 1 none :: wG
abbrev b_S_keepBounds : ByteArray := prog_2_method_16_code
def y_S_keepBounds : MethodName := ⟨R_S, "keepBounds", "()V"⟩
abbrev w_S_keepBounds : List Cond := .code y_S_keepBounds b_S_keepBounds 1 none :: wG
abbrev b_T_init : ByteArray := prog_3_method_1_code
def y_T_init : MethodName := ⟨R_T, "<init>", "(I)V"⟩
abbrev w_T_init : List Cond := .code y_T_init b_T_init 2 none :: wG
abbrev b_T_at : ByteArray := prog_3_method_2_code
def y_T_at : MethodName := ⟨R_T, "at", "(II)J"⟩
abbrev w_T_at : List Cond := .code y_T_at b_T_at 3 (some .long) :: wG
abbrev b_T_half : ByteArray := prog_3_method_3_code
def y_T_half : MethodName := ⟨R_T, "half", "(I)J"⟩
abbrev w_T_half : List Cond := .code y_T_half b_T_half 2 (some .long) :: wG
abbrev b_T_ofTerms : ByteArray := prog_3_method_4_code
def y_T_ofTerms : MethodName := ⟨R_T, "ofTerms", "(II)J"⟩
abbrev w_T_ofTerms : List Cond := .code y_T_ofTerms b_T_ofTerms 3 (some .long) :: wG
abbrev b_T_store : ByteArray := prog_3_method_5_code
def y_T_store : MethodName := ⟨R_T, "store", "(IIJ)V"⟩
abbrev w_T_store : List Cond := .code y_T_store b_T_store 5 none :: wG
abbrev b_T_lowerTo : ByteArray := prog_3_method_6_code
def y_T_lowerTo : MethodName := ⟨R_T, "lowerTo", "(IIJ)V"⟩
abbrev w_T_lowerTo : List Cond := .code y_T_lowerTo b_T_lowerTo 5 none :: wG
abbrev b_T_takeFrom : ByteArray := prog_3_method_7_code
def y_T_takeFrom : MethodName := ⟨R_T, "takeFrom", "(LLinearRows$Table;)V"⟩
abbrev w_T_takeFrom : List Cond := .code y_T_takeFrom b_T_takeFrom 2 none :: wG
abbrev b_T_dropRows : ByteArray := prog_3_method_8_code
def y_T_dropRows : MethodName := ⟨R_T, "dropRows", "()V"⟩
abbrev w_T_dropRows : List Cond := .code y_T_dropRows b_T_dropRows 1 none :: wG
abbrev b_T_storeOpposites : ByteArray := prog_3_method_9_code
def y_T_storeOpposites : MethodName := ⟨R_T, "storeOpposites", "(J)V"⟩
abbrev w_T_storeOpposites : List Cond := .code y_T_storeOpposites b_T_storeOpposites 4 none :: wG
abbrev b_T_countRows : ByteArray := prog_3_method_10_code
def y_T_countRows : MethodName := ⟨R_T, "countRows", "()I"⟩
abbrev w_T_countRows : List Cond := .code y_T_countRows b_T_countRows 4 (some .int) :: wG
abbrev b_T_isNowhereAbove : ByteArray := prog_3_method_11_code
def y_T_isNowhereAbove : MethodName := ⟨R_T, "isNowhereAbove", "(LLinearRows$Table;)Z"⟩
abbrev w_T_isNowhereAbove : List Cond := .code y_T_isNowhereAbove b_T_isNowhereAbove 4 (some .boolean) :: wG
abbrev b_T_isTooFar : ByteArray := prog_3_method_12_code
def y_T_isTooFar : MethodName := ⟨R_T, "isTooFar", "()Z"⟩
abbrev w_T_isTooFar : List Cond := .code y_T_isTooFar b_T_isTooFar 5 (some .boolean) :: wG
abbrev b_T_close : ByteArray := prog_3_method_13_code
def y_T_close : MethodName := ⟨R_T, "close", "()Z"⟩
abbrev w_T_close : List Cond := .code y_T_close b_T_close 2 (some .boolean) :: wG
abbrev b_T_chainThrough : ByteArray := prog_3_method_14_code
def y_T_chainThrough : MethodName := ⟨R_T, "chainThrough", "(I)V"⟩
abbrev w_T_chainThrough : List Cond := .code y_T_chainThrough b_T_chainThrough 10 none :: wG
abbrev b_T_hasOppositesBelowZero : ByteArray := prog_3_method_15_code
def y_T_hasOppositesBelowZero : MethodName := ⟨R_T, "hasOppositesBelowZero", "()Z"⟩
abbrev w_T_hasOppositesBelowZero : List Cond := .code y_T_hasOppositesBelowZero b_T_hasOppositesBelowZero 2 (some .boolean) :: wG
abbrev b_T_cutToEven : ByteArray := prog_3_method_16_code
def y_T_cutToEven : MethodName := ⟨R_T, "cutToEven", "()V"⟩
abbrev w_T_cutToEven : List Cond := .code y_T_cutToEven b_T_cutToEven 2 none :: wG
abbrev b_T_hasTwicesThatContradict : ByteArray := prog_3_method_17_code
def y_T_hasTwicesThatContradict : MethodName := ⟨R_T, "hasTwicesThatContradict", "()Z"⟩
abbrev w_T_hasTwicesThatContradict : List Cond := .code y_T_hasTwicesThatContradict b_T_hasTwicesThatContradict 2 (some .boolean) :: wG
abbrev b_T_addHalves : ByteArray := prog_3_method_18_code
def y_T_addHalves : MethodName := ⟨R_T, "addHalves", "()V"⟩
abbrev w_T_addHalves : List Cond := .code y_T_addHalves b_T_addHalves 3 none :: wG
abbrev b_L_cell : ByteArray := method_2_code
def y_L_cell : MethodName := ⟨R_L, "cell", "([II)I"⟩
abbrev w_L_cell : List Cond := .code y_L_cell b_L_cell 2 (some .int) :: wG
abbrev b_L_all : ByteArray := method_3_code
def y_L_all : MethodName := ⟨R_L, "all", "(LLinearRows;I)I"⟩
abbrev h_L_all : List (Nat × Nat × Nat × Nat) := [(0, 5, 8, 13)]
abbrev w_L_all : List Cond := .codeWith y_L_all b_L_all 3 (some .int) h_L_all :: wG
abbrev b_L_row : ByteArray := method_4_code
def y_L_row : MethodName := ⟨R_L, "row", "(LLinearRows;IIIJ[J)I"⟩
abbrev h_L_row : List (Nat × Nat × Nat × Nat) := [(0, 14, 17, 13), (0, 14, 21, 19), (0, 14, 25, 21)]
abbrev w_L_row : List Cond := .codeWith y_L_row b_L_row 8 (some .int) h_L_row :: wG
abbrev b_L_bound : ByteArray := method_5_code
def y_L_bound : MethodName := ⟨R_L, "bound", "(LLinearRows;III[J)I"⟩
abbrev h_L_bound : List (Nat × Nat × Nat × Nat) := [(0, 11, 14, 13)]
abbrev w_L_bound : List Cond := .codeWith y_L_bound b_L_bound 6 (some .int) h_L_bound :: wG
abbrev b_L_kept : ByteArray := method_6_code
def y_L_kept : MethodName := ⟨R_L, "kept", "(LLinearRows;III[J)I"⟩
abbrev h_L_kept : List (Nat × Nat × Nat × Nat) := [(0, 11, 14, 13)]
abbrev w_L_kept : List Cond := .codeWith y_L_kept b_L_kept 6 (some .int) h_L_kept :: wG
abbrev b_L_meet : ByteArray := method_7_code
def y_L_meet : MethodName := ⟨R_L, "meet", "(LLinearRows;III[J)I"⟩
abbrev h_L_meet : List (Nat × Nat × Nat × Nat) := [(0, 12, 15, 13), (0, 12, 19, 21)]
abbrev w_L_meet : List Cond := .codeWith y_L_meet b_L_meet 6 (some .int) h_L_meet :: wG
abbrev b_L_join : ByteArray := method_8_code
def y_L_join : MethodName := ⟨R_L, "join", "(LLinearRows;III[J)I"⟩
abbrev h_L_join : List (Nat × Nat × Nat × Nat) := [(0, 12, 15, 13)]
abbrev w_L_join : List Cond := .codeWith y_L_join b_L_join 6 (some .int) h_L_join :: wG
abbrev b_L_widen : ByteArray := method_9_code
def y_L_widen : MethodName := ⟨R_L, "widen", "(LLinearRows;III[J)I"⟩
abbrev h_L_widen : List (Nat × Nat × Nat × Nat) := [(0, 12, 15, 13), (0, 12, 19, 21)]
abbrev w_L_widen : List Cond := .codeWith y_L_widen b_L_widen 6 (some .int) h_L_widen :: wG
abbrev b_L_narrow : ByteArray := method_10_code
def y_L_narrow : MethodName := ⟨R_L, "narrow", "(LLinearRows;III[J)I"⟩
abbrev h_L_narrow : List (Nat × Nat × Nat × Nat) := [(0, 12, 15, 13), (0, 12, 19, 21)]
abbrev w_L_narrow : List Cond := .codeWith y_L_narrow b_L_narrow 6 (some .int) h_L_narrow :: wG
abbrev b_L_copy : ByteArray := method_11_code
def y_L_copy : MethodName := ⟨R_L, "copy", "(LLinearRows;II)I"⟩
abbrev h_L_copy : List (Nat × Nat × Nat × Nat) := [(0, 6, 9, 13)]
abbrev w_L_copy : List Cond := .codeWith y_L_copy b_L_copy 4 (some .int) h_L_copy :: wG
abbrev b_L_set : ByteArray := method_12_code
def y_L_set : MethodName := ⟨R_L, "set", "(LLinearRows;IIIJ[J)I"⟩
abbrev h_L_set : List (Nat × Nat × Nat × Nat) := [(0, 14, 17, 13), (0, 14, 21, 19), (0, 14, 25, 21)]
abbrev w_L_set : List Cond := .codeWith y_L_set b_L_set 8 (some .int) h_L_set :: wG
abbrev b_L_forget : ByteArray := method_13_code
def y_L_forget : MethodName := ⟨R_L, "forget", "(LLinearRows;II[J)I"⟩
abbrev h_L_forget : List (Nat × Nat × Nat × Nat) := [(0, 10, 13, 13)]
abbrev w_L_forget : List Cond := .codeWith y_L_forget b_L_forget 5 (some .int) h_L_forget :: wG
abbrev b_L_within : ByteArray := method_14_code
def y_L_within : MethodName := ⟨R_L, "within", "(LLinearRows;II[J)I"⟩
abbrev h_L_within : List (Nat × Nat × Nat × Nat) := [(0, 17, 20, 13)]
abbrev w_L_within : List Cond := .codeWith y_L_within b_L_within 5 (some .int) h_L_within :: wG
abbrev b_L_put : ByteArray := method_15_code
def y_L_put : MethodName := ⟨R_L, "put", "(LLinearRows;IJ[J)I"⟩
abbrev h_L_put : List (Nat × Nat × Nat × Nat) := [(0, 10, 13, 13), (0, 10, 17, 19)]
abbrev w_L_put : List Cond := .codeWith y_L_put b_L_put 6 (some .int) h_L_put :: wG
abbrev b_L_point : ByteArray := method_16_code
def y_L_point : MethodName := ⟨R_L, "point", "(LLinearRows;I[J)I"⟩
abbrev h_L_point : List (Nat × Nat × Nat × Nat) := [(0, 8, 11, 13)]
abbrev w_L_point : List Cond := .codeWith y_L_point b_L_point 4 (some .int) h_L_point :: wG
abbrev b_L_has : ByteArray := method_17_code
def y_L_has : MethodName := ⟨R_L, "has", "(LLinearRows;I[J)I"⟩
abbrev h_L_has : List (Nat × Nat × Nat × Nat) := [(0, 16, 19, 13)]
abbrev w_L_has : List Cond := .codeWith y_L_has b_L_has 4 (some .int) h_L_has :: wG
abbrev b_L_sample : ByteArray := method_18_code
def y_L_sample : MethodName := ⟨R_L, "sample", "(LLinearRows;I[J)I"⟩
abbrev h_L_sample : List (Nat × Nat × Nat × Nat) := [(0, 16, 19, 13)]
abbrev w_L_sample : List Cond := .codeWith y_L_sample b_L_sample 4 (some .int) h_L_sample :: wG
abbrev b_L_needed : ByteArray := method_19_code
def y_L_needed : MethodName := ⟨R_L, "needed", "(LLinearRows;I[J)I"⟩
abbrev h_L_needed : List (Nat × Nat × Nat × Nat) := [(0, 9, 12, 13)]
abbrev w_L_needed : List Cond := .codeWith y_L_needed b_L_needed 4 (some .int) h_L_needed :: wG
abbrev b_L_needs : ByteArray := method_20_code
def y_L_needs : MethodName := ⟨R_L, "needs", "(LLinearRows;II[J)I"⟩
abbrev h_L_needs : List (Nat × Nat × Nat × Nat) := [(0, 9, 12, 13)]
abbrev w_L_needs : List Cond := .codeWith y_L_needs b_L_needs 5 (some .int) h_L_needs :: wG
abbrev b_L_fits : ByteArray := method_21_code
def y_L_fits : MethodName := ⟨R_L, "fits", "(LLinearRows;III[J)I"⟩
abbrev h_L_fits : List (Nat × Nat × Nat × Nat) := [(0, 19, 22, 13), (0, 19, 26, 19)]
abbrev w_L_fits : List Cond := .codeWith y_L_fits b_L_fits 6 (some .int) h_L_fits :: wG
abbrev b_L_array : ByteArray := method_22_code
def y_L_array : MethodName := ⟨R_L, "array", "(LLinearRows;III[J)I"⟩
abbrev h_L_array : List (Nat × Nat × Nat × Nat) := [(0, 12, 15, 13)]
abbrev w_L_array : List Cond := .codeWith y_L_array b_L_array 6 (some .int) h_L_array :: wG
abbrev b_L_told : ByteArray := method_23_code
def y_L_told : MethodName := ⟨R_L, "told", "(LLinearRows;I[J)I"⟩
abbrev h_L_told : List (Nat × Nat × Nat × Nat) := [(0, 9, 12, 13)]
abbrev w_L_told : List Cond := .codeWith y_L_told b_L_told 4 (some .int) h_L_told :: wG
abbrev b_L_law : ByteArray := code
def y_L_law : MethodName := ⟨R_L, "law", "([I)Z"⟩
abbrev b_JM_floorDiv : ByteArray := prog_10_method_49_code
def y_JM_floorDiv : MethodName := ⟨R_JM, "floorDiv", "(JJ)J"⟩
abbrev w_JM_floorDiv : List Cond := .code y_JM_floorDiv b_JM_floorDiv 6 (some .long) :: wG
abbrev b_JM_max : ByteArray := prog_10_method_65_code
def y_JM_max : MethodName := ⟨R_JM, "max", "(II)I"⟩
abbrev w_JM_max : List Cond := .code y_JM_max b_JM_max 2 (some .int) :: wG
abbrev b_JM_max_JJJ : ByteArray := prog_10_method_66_code
def y_JM_max_JJJ : MethodName := ⟨R_JM, "max", "(JJ)J"⟩
abbrev w_JM_max_JJJ : List Cond := .code y_JM_max_JJJ b_JM_max_JJJ 4 (some .long) :: wG
abbrev b_JM_min : ByteArray := prog_10_method_69_code
def y_JM_min : MethodName := ⟨R_JM, "min", "(II)I"⟩
abbrev w_JM_min : List Cond := .code y_JM_min b_JM_min 2 (some .int) :: wG
abbrev b_JM_min_JJJ : ByteArray := prog_10_method_70_code
def y_JM_min_JJJ : MethodName := ⟨R_JM, "min", "(JJ)J"⟩
abbrev w_JM_min_JJJ : List Cond := .code y_JM_min_JJJ b_JM_min_JJJ 4 (some .long) :: wG
abbrev b_JA_fill : ByteArray := prog_15_method_101_code
def y_JA_fill : MethodName := ⟨R_JA, "fill", "([JJ)V"⟩
abbrev w_JA_fill : List Cond := .code y_JA_fill b_JA_fill 5 none :: wG
theorem wm_1_0 : Cond.initialized "LinearRowsLaw" ∈ wG := List.mem_filter.mpr ⟨List.mem_append_right _ (List.mem_append_left _ (List.mem_of_getElem? (i := 0) rfl)), rfl⟩
theorem wm_1_1 : Cond.initialized "LinearRows" ∈ wG := List.mem_filter.mpr ⟨List.mem_append_right _ (List.mem_append_left _ (List.mem_of_getElem? (i := 1) rfl)), rfl⟩
theorem wm_1_2 : Cond.initialized "java/lang/Math" ∈ wG := List.mem_filter.mpr ⟨List.mem_append_right _ (List.mem_append_left _ (List.mem_of_getElem? (i := 2) rfl)), rfl⟩
theorem wm_1_3 : Cond.initialized "LinearRows$Shape" ∈ wG := List.mem_filter.mpr ⟨List.mem_append_right _ (List.mem_append_left _ (List.mem_of_getElem? (i := 3) rfl)), rfl⟩
theorem wm_1_4 : Cond.initialized "LinearRows$Table" ∈ wG := List.mem_filter.mpr ⟨List.mem_append_right _ (List.mem_append_left _ (List.mem_of_getElem? (i := 4) rfl)), rfl⟩
theorem wm_1_5 : Cond.initialized "java/util/Arrays" ∈ wG := List.mem_filter.mpr ⟨List.mem_append_right _ (List.mem_append_left _ (List.mem_of_getElem? (i := 5) rfl)), rfl⟩
theorem wm_1_6 : Cond.initialized "LinearRowsModel" ∈ wG := List.mem_filter.mpr ⟨List.mem_append_right _ (List.mem_append_left _ (List.mem_of_getElem? (i := 6) rfl)), rfl⟩
theorem wm_1_7 : Cond.initialized "java/lang/Throwable" ∈ wG := List.mem_filter.mpr ⟨List.mem_append_right _ (List.mem_append_left _ (List.mem_of_getElem? (i := 7) rfl)), rfl⟩
theorem wm_1_8 : Cond.initialized "java/lang/Exception" ∈ wG := List.mem_filter.mpr ⟨List.mem_append_right _ (List.mem_append_left _ (List.mem_of_getElem? (i := 8) rfl)), rfl⟩
theorem wm_1_9 : Cond.initialized "java/lang/RuntimeException" ∈ wG := List.mem_filter.mpr ⟨List.mem_append_right _ (List.mem_append_left _ (List.mem_of_getElem? (i := 9) rfl)), rfl⟩
theorem wm_1_10 : Cond.initialized "java/lang/IndexOutOfBoundsException" ∈ wG := List.mem_filter.mpr ⟨List.mem_append_right _ (List.mem_append_left _ (List.mem_of_getElem? (i := 10) rfl)), rfl⟩
theorem wm_1_11 : Cond.initialized "java/lang/IllegalArgumentException" ∈ wG := List.mem_filter.mpr ⟨List.mem_append_right _ (List.mem_append_left _ (List.mem_of_getElem? (i := 11) rfl)), rfl⟩
theorem wm_1_12 : Cond.initialized "java/lang/System" ∈ wG := List.mem_filter.mpr ⟨List.mem_append_right _ (List.mem_append_left _ (List.mem_of_getElem? (i := 12) rfl)), rfl⟩
theorem wm_1_13 : Cond.initialized "java/lang/ArithmeticException" ∈ wG := List.mem_filter.mpr ⟨List.mem_append_right _ (List.mem_append_left _ (List.mem_of_getElem? (i := 13) rfl)), rfl⟩
theorem wm_1_14 : Cond.classLink "LinearRowsLaw" 8 "LinearRows" ∈ wG := List.mem_filter.mpr ⟨List.mem_append_right _ (List.mem_append_left _ (List.mem_of_getElem? (i := 14) rfl)), rfl⟩
theorem wm_1_15 : Cond.instantiable "LinearRows" 9 ∈ wG := List.mem_filter.mpr ⟨List.mem_append_right _ (List.mem_append_left _ (List.mem_of_getElem? (i := 15) rfl)), rfl⟩
theorem wm_1_16 : Cond.methodLink "LinearRowsLaw" 97 y_X_init ∈ wG := List.mem_filter.mpr ⟨List.mem_append_right _ (List.mem_append_left _ (List.mem_of_getElem? (i := 16) rfl)), rfl⟩
theorem wm_1_17 : Cond.instanceMethod y_X_init ∈ wG := List.mem_filter.mpr ⟨List.mem_append_right _ (List.mem_append_left _ (List.mem_of_getElem? (i := 17) rfl)), rfl⟩
theorem wm_1_18 : Cond.code y_X_init b_X_init 3 none ∈ wG := List.mem_filter.mpr ⟨List.mem_append_right _ (List.mem_append_left _ (List.mem_of_getElem? (i := 18) rfl)), rfl⟩
theorem wm_1_19 : Cond.methodLink "LinearRows" 1 ⟨"java/lang/Object", "<init>", "()V"⟩ ∈ wG := List.mem_filter.mpr ⟨List.mem_append_right _ (List.mem_append_left _ (List.mem_of_getElem? (i := 19) rfl)), rfl⟩
theorem wm_1_20 : Cond.instanceMethod ⟨"java/lang/Object", "<init>", "()V"⟩ ∈ wG := List.mem_filter.mpr ⟨List.mem_append_right _ (List.mem_append_left _ (List.mem_of_getElem? (i := 20) rfl)), rfl⟩
theorem wm_1_22 : Cond.methodLink "LinearRows" 9 y_JM_min ∈ wG := List.mem_filter.mpr ⟨List.mem_append_right _ (List.mem_append_left _ (List.mem_of_getElem? (i := 22) rfl)), rfl⟩
theorem wm_1_23 : Cond.static y_JM_min ∈ wG := List.mem_filter.mpr ⟨List.mem_append_right _ (List.mem_append_left _ (List.mem_of_getElem? (i := 23) rfl)), rfl⟩
theorem wm_1_24 : Cond.code y_JM_min b_JM_min 2 (some .int) ∈ wG := List.mem_filter.mpr ⟨List.mem_append_right _ (List.mem_append_left _ (List.mem_of_getElem? (i := 24) rfl)), rfl⟩
theorem wm_1_25 : Cond.methodLink "LinearRows" 15 y_JM_max ∈ wG := List.mem_filter.mpr ⟨List.mem_append_right _ (List.mem_append_left _ (List.mem_of_getElem? (i := 25) rfl)), rfl⟩
theorem wm_1_26 : Cond.static y_JM_max ∈ wG := List.mem_filter.mpr ⟨List.mem_append_right _ (List.mem_append_left _ (List.mem_of_getElem? (i := 26) rfl)), rfl⟩
theorem wm_1_27 : Cond.code y_JM_max b_JM_max 2 (some .int) ∈ wG := List.mem_filter.mpr ⟨List.mem_append_right _ (List.mem_append_left _ (List.mem_of_getElem? (i := 27) rfl)), rfl⟩
theorem wm_1_28 : Cond.classLink "LinearRows" 25 "LinearRows$Shape" ∈ wG := List.mem_filter.mpr ⟨List.mem_append_right _ (List.mem_append_left _ (List.mem_of_getElem? (i := 28) rfl)), rfl⟩
theorem wm_1_30 : Cond.instantiable "LinearRows$Shape" 4 ∈ wG := List.mem_filter.mpr ⟨List.mem_append_right _ (List.mem_append_left _ (List.mem_of_getElem? (i := 30) rfl)), rfl⟩
theorem wm_1_31 : Cond.methodLink "LinearRows" 31 y_S_init ∈ wG := List.mem_filter.mpr ⟨List.mem_append_right _ (List.mem_append_left _ (List.mem_of_getElem? (i := 31) rfl)), rfl⟩
theorem wm_1_32 : Cond.instanceMethod y_S_init ∈ wG := List.mem_filter.mpr ⟨List.mem_append_right _ (List.mem_append_left _ (List.mem_of_getElem? (i := 32) rfl)), rfl⟩
theorem wm_1_33 : Cond.code y_S_init b_S_init 2 none ∈ wG := List.mem_filter.mpr ⟨List.mem_append_right _ (List.mem_append_left _ (List.mem_of_getElem? (i := 33) rfl)), rfl⟩
theorem wm_1_34 : Cond.methodLink "LinearRows$Shape" 3 ⟨"java/lang/Object", "<init>", "()V"⟩ ∈ wG := List.mem_filter.mpr ⟨List.mem_append_right _ (List.mem_append_left _ (List.mem_of_getElem? (i := 34) rfl)), rfl⟩
theorem wm_1_35 : Cond.classLink "LinearRows$Shape" 15 "LinearRows$Table" ∈ wG := List.mem_filter.mpr ⟨List.mem_append_right _ (List.mem_append_left _ (List.mem_of_getElem? (i := 35) rfl)), rfl⟩
theorem wm_1_36 : Cond.instantiable "LinearRows$Table" 2 ∈ wG := List.mem_filter.mpr ⟨List.mem_append_right _ (List.mem_append_left _ (List.mem_of_getElem? (i := 36) rfl)), rfl⟩
theorem wm_1_37 : Cond.methodLink "LinearRows$Shape" 17 y_T_init ∈ wG := List.mem_filter.mpr ⟨List.mem_append_right _ (List.mem_append_left _ (List.mem_of_getElem? (i := 37) rfl)), rfl⟩
theorem wm_1_38 : Cond.instanceMethod y_T_init ∈ wG := List.mem_filter.mpr ⟨List.mem_append_right _ (List.mem_append_left _ (List.mem_of_getElem? (i := 38) rfl)), rfl⟩
theorem wm_1_39 : Cond.code y_T_init b_T_init 2 none ∈ wG := List.mem_filter.mpr ⟨List.mem_append_right _ (List.mem_append_left _ (List.mem_of_getElem? (i := 39) rfl)), rfl⟩
theorem wm_1_40 : Cond.methodLink "LinearRows$Table" 3 ⟨"java/lang/Object", "<init>", "()V"⟩ ∈ wG := List.mem_filter.mpr ⟨List.mem_append_right _ (List.mem_append_left _ (List.mem_of_getElem? (i := 40) rfl)), rfl⟩
theorem wm_1_41 : Cond.constantLong "LinearRows$Table" 19 4611686018427387904 ∈ wG := List.mem_filter.mpr ⟨List.mem_append_right _ (List.mem_append_left _ (List.mem_of_getElem? (i := 41) rfl)), rfl⟩
theorem wm_1_42 : Cond.methodLink "LinearRows$Table" 21 y_JA_fill ∈ wG := List.mem_filter.mpr ⟨List.mem_append_right _ (List.mem_append_left _ (List.mem_of_getElem? (i := 42) rfl)), rfl⟩
theorem wm_1_43 : Cond.static y_JA_fill ∈ wG := List.mem_filter.mpr ⟨List.mem_append_right _ (List.mem_append_left _ (List.mem_of_getElem? (i := 43) rfl)), rfl⟩
theorem wm_1_44 : Cond.code y_JA_fill b_JA_fill 5 none ∈ wG := List.mem_filter.mpr ⟨List.mem_append_right _ (List.mem_append_left _ (List.mem_of_getElem? (i := 44) rfl)), rfl⟩
theorem wm_1_45 : Cond.fieldLink "LinearRows$Table" 9 "LinearRows$Table" "size" "I" ∈ wG := List.mem_filter.mpr ⟨List.mem_append_right _ (List.mem_append_left _ (List.mem_of_getElem? (i := 45) rfl)), rfl⟩
theorem wm_1_46 : Cond.fieldLink "LinearRows$Table" 15 "LinearRows$Table" "cells" "[J" ∈ wG := List.mem_filter.mpr ⟨List.mem_append_right _ (List.mem_append_left _ (List.mem_of_getElem? (i := 46) rfl)), rfl⟩
theorem wm_1_47 : Cond.laysFinal "LinearRows$Table" "LinearRows$Table" "size" "I" ∈ wG := List.mem_filter.mpr ⟨List.mem_append_right _ (List.mem_append_left _ (List.mem_of_getElem? (i := 47) rfl)), rfl⟩
theorem wm_1_48 : Cond.soleField "LinearRows$Table" "size" ∈ wG := List.mem_filter.mpr ⟨List.mem_append_right _ (List.mem_append_left _ (List.mem_of_getElem? (i := 48) rfl)), rfl⟩
theorem wm_1_49 : Cond.laysFinal "LinearRows$Table" "LinearRows$Table" "cells" "[J" ∈ wG := List.mem_filter.mpr ⟨List.mem_append_right _ (List.mem_append_left _ (List.mem_of_getElem? (i := 49) rfl)), rfl⟩
theorem wm_1_50 : Cond.soleField "LinearRows$Table" "cells" ∈ wG := List.mem_filter.mpr ⟨List.mem_append_right _ (List.mem_append_left _ (List.mem_of_getElem? (i := 50) rfl)), rfl⟩
theorem wm_1_51 : Cond.superclass "LinearRows$Table" "java/lang/Object" ∈ wG := List.mem_filter.mpr ⟨List.mem_append_right _ (List.mem_append_left _ (List.mem_of_getElem? (i := 51) rfl)), rfl⟩
theorem wm_1_52 : Cond.arrayClass FieldType.long ∈ wG := List.mem_filter.mpr ⟨List.mem_append_right _ (List.mem_append_left _ (List.mem_of_getElem? (i := 52) rfl)), rfl⟩
theorem wm_1_53 : Cond.methodLink "LinearRows$Shape" 27 y_T_storeOpposites ∈ wG := List.mem_filter.mpr ⟨List.mem_append_right _ (List.mem_append_left _ (List.mem_of_getElem? (i := 53) rfl)), rfl⟩
theorem wm_1_54 : Cond.instanceMethod y_T_storeOpposites ∈ wG := List.mem_filter.mpr ⟨List.mem_append_right _ (List.mem_append_left _ (List.mem_of_getElem? (i := 54) rfl)), rfl⟩
theorem wm_1_55 : Cond.selects "LinearRows$Table" y_T_storeOpposites y_T_storeOpposites ∈ wG := List.mem_filter.mpr ⟨List.mem_append_right _ (List.mem_append_left _ (List.mem_of_getElem? (i := 55) rfl)), rfl⟩
theorem wm_1_56 : Cond.code y_T_storeOpposites b_T_storeOpposites 4 none ∈ wG := List.mem_filter.mpr ⟨List.mem_append_right _ (List.mem_append_left _ (List.mem_of_getElem? (i := 56) rfl)), rfl⟩
theorem wm_1_57 : Cond.fieldLink "LinearRows$Shape" 9 "LinearRows$Shape" "size" "I" ∈ wG := List.mem_filter.mpr ⟨List.mem_append_right _ (List.mem_append_left _ (List.mem_of_getElem? (i := 57) rfl)), rfl⟩
theorem wm_1_58 : Cond.fieldLink "LinearRows$Shape" 20 "LinearRows$Shape" "keptRows" "LLinearRows$Table;" ∈ wG := List.mem_filter.mpr ⟨List.mem_append_right _ (List.mem_append_left _ (List.mem_of_getElem? (i := 58) rfl)), rfl⟩
theorem wm_1_60 : Cond.fieldLink "LinearRows$Shape" 24 "LinearRows$Shape" "bounds" "LLinearRows$Table;" ∈ wG := List.mem_filter.mpr ⟨List.mem_append_right _ (List.mem_append_left _ (List.mem_of_getElem? (i := 60) rfl)), rfl⟩
theorem wm_1_62 : Cond.fieldLink "LinearRows$Shape" 31 "LinearRows$Shape" "empty" "Z" ∈ wG := List.mem_filter.mpr ⟨List.mem_append_right _ (List.mem_append_left _ (List.mem_of_getElem? (i := 62) rfl)), rfl⟩
theorem wm_1_64 : Cond.laysFinal "LinearRows$Shape" "LinearRows$Shape" "size" "I" ∈ wG := List.mem_filter.mpr ⟨List.mem_append_right _ (List.mem_append_left _ (List.mem_of_getElem? (i := 64) rfl)), rfl⟩
theorem wm_1_65 : Cond.soleField "LinearRows$Shape" "size" ∈ wG := List.mem_filter.mpr ⟨List.mem_append_right _ (List.mem_append_left _ (List.mem_of_getElem? (i := 65) rfl)), rfl⟩
theorem wm_1_66 : Cond.laysFinal "LinearRows$Shape" "LinearRows$Shape" "keptRows" "LLinearRows$Table;" ∈ wG := List.mem_filter.mpr ⟨List.mem_append_right _ (List.mem_append_left _ (List.mem_of_getElem? (i := 66) rfl)), rfl⟩
theorem wm_1_67 : Cond.soleField "LinearRows$Shape" "keptRows" ∈ wG := List.mem_filter.mpr ⟨List.mem_append_right _ (List.mem_append_left _ (List.mem_of_getElem? (i := 67) rfl)), rfl⟩
theorem wm_1_68 : Cond.laysFinal "LinearRows$Shape" "LinearRows$Shape" "bounds" "LLinearRows$Table;" ∈ wG := List.mem_filter.mpr ⟨List.mem_append_right _ (List.mem_append_left _ (List.mem_of_getElem? (i := 68) rfl)), rfl⟩
theorem wm_1_69 : Cond.soleField "LinearRows$Shape" "bounds" ∈ wG := List.mem_filter.mpr ⟨List.mem_append_right _ (List.mem_append_left _ (List.mem_of_getElem? (i := 69) rfl)), rfl⟩
theorem wm_1_70 : Cond.lays "LinearRows$Shape" "LinearRows$Shape" "empty" "Z" ∈ wG := List.mem_filter.mpr ⟨List.mem_append_right _ (List.mem_append_left _ (List.mem_of_getElem? (i := 70) rfl)), rfl⟩
theorem wm_1_71 : Cond.soleField "LinearRows$Shape" "empty" ∈ wG := List.mem_filter.mpr ⟨List.mem_append_right _ (List.mem_append_left _ (List.mem_of_getElem? (i := 71) rfl)), rfl⟩
theorem wm_1_72 : Cond.superclass "LinearRows$Shape" "java/lang/Object" ∈ wG := List.mem_filter.mpr ⟨List.mem_append_right _ (List.mem_append_left _ (List.mem_of_getElem? (i := 72) rfl)), rfl⟩
theorem wm_1_73 : Cond.classLink "LinearRows" 38 "LinearRows$Table" ∈ wG := List.mem_filter.mpr ⟨List.mem_append_right _ (List.mem_append_left _ (List.mem_of_getElem? (i := 73) rfl)), rfl⟩
theorem wm_1_74 : Cond.methodLink "LinearRows" 40 y_T_init ∈ wG := List.mem_filter.mpr ⟨List.mem_append_right _ (List.mem_append_left _ (List.mem_of_getElem? (i := 74) rfl)), rfl⟩
theorem wm_1_75 : Cond.fieldLink "LinearRows" 18 "LinearRows" "names" "I" ∈ wG := List.mem_filter.mpr ⟨List.mem_append_right _ (List.mem_append_left _ (List.mem_of_getElem? (i := 75) rfl)), rfl⟩
theorem wm_1_76 : Cond.fieldLink "LinearRows" 22 "LinearRows" "places" "I" ∈ wG := List.mem_filter.mpr ⟨List.mem_append_right _ (List.mem_append_left _ (List.mem_of_getElem? (i := 76) rfl)), rfl⟩
theorem wm_1_77 : Cond.fieldLink "LinearRows" 27 "LinearRows" "shapes" "[LLinearRows$Shape;" ∈ wG := List.mem_filter.mpr ⟨List.mem_append_right _ (List.mem_append_left _ (List.mem_of_getElem? (i := 77) rfl)), rfl⟩
theorem wm_1_78 : Cond.fieldLink "LinearRows" 34 "LinearRows" "made" "LLinearRows$Shape;" ∈ wG := List.mem_filter.mpr ⟨List.mem_append_right _ (List.mem_append_left _ (List.mem_of_getElem? (i := 78) rfl)), rfl⟩
theorem wm_1_79 : Cond.fieldLink "LinearRows" 41 "LinearRows" "left" "LLinearRows$Table;" ∈ wG := List.mem_filter.mpr ⟨List.mem_append_right _ (List.mem_append_left _ (List.mem_of_getElem? (i := 79) rfl)), rfl⟩
theorem wm_1_80 : Cond.fieldLink "LinearRows" 45 "LinearRows" "trial" "LLinearRows$Table;" ∈ wG := List.mem_filter.mpr ⟨List.mem_append_right _ (List.mem_append_left _ (List.mem_of_getElem? (i := 80) rfl)), rfl⟩
theorem wm_1_81 : Cond.fieldLink "LinearRows" 48 "LinearRows" "numbers" "[J" ∈ wG := List.mem_filter.mpr ⟨List.mem_append_right _ (List.mem_append_left _ (List.mem_of_getElem? (i := 81) rfl)), rfl⟩
theorem wm_1_82 : Cond.fieldLink "LinearRows" 52 "LinearRows" "neededRows" "[J" ∈ wG := List.mem_filter.mpr ⟨List.mem_append_right _ (List.mem_append_left _ (List.mem_of_getElem? (i := 82) rfl)), rfl⟩
theorem wm_1_83 : Cond.fieldLink "LinearRows" 55 "LinearRows" "neededCount" "I" ∈ wG := List.mem_filter.mpr ⟨List.mem_append_right _ (List.mem_append_left _ (List.mem_of_getElem? (i := 83) rfl)), rfl⟩
theorem wm_1_84 : Cond.laysFinal "LinearRows" "LinearRows" "names" "I" ∈ wG := List.mem_filter.mpr ⟨List.mem_append_right _ (List.mem_append_left _ (List.mem_of_getElem? (i := 84) rfl)), rfl⟩
theorem wm_1_85 : Cond.soleField "LinearRows" "names" ∈ wG := List.mem_filter.mpr ⟨List.mem_append_right _ (List.mem_append_left _ (List.mem_of_getElem? (i := 85) rfl)), rfl⟩
theorem wm_1_86 : Cond.laysFinal "LinearRows" "LinearRows" "places" "I" ∈ wG := List.mem_filter.mpr ⟨List.mem_append_right _ (List.mem_append_left _ (List.mem_of_getElem? (i := 86) rfl)), rfl⟩
theorem wm_1_87 : Cond.soleField "LinearRows" "places" ∈ wG := List.mem_filter.mpr ⟨List.mem_append_right _ (List.mem_append_left _ (List.mem_of_getElem? (i := 87) rfl)), rfl⟩
theorem wm_1_88 : Cond.laysFinal "LinearRows" "LinearRows" "shapes" "[LLinearRows$Shape;" ∈ wG := List.mem_filter.mpr ⟨List.mem_append_right _ (List.mem_append_left _ (List.mem_of_getElem? (i := 88) rfl)), rfl⟩
theorem wm_1_89 : Cond.soleField "LinearRows" "shapes" ∈ wG := List.mem_filter.mpr ⟨List.mem_append_right _ (List.mem_append_left _ (List.mem_of_getElem? (i := 89) rfl)), rfl⟩
theorem wm_1_90 : Cond.laysFinal "LinearRows" "LinearRows" "made" "LLinearRows$Shape;" ∈ wG := List.mem_filter.mpr ⟨List.mem_append_right _ (List.mem_append_left _ (List.mem_of_getElem? (i := 90) rfl)), rfl⟩
theorem wm_1_91 : Cond.soleField "LinearRows" "made" ∈ wG := List.mem_filter.mpr ⟨List.mem_append_right _ (List.mem_append_left _ (List.mem_of_getElem? (i := 91) rfl)), rfl⟩
theorem wm_1_92 : Cond.laysFinal "LinearRows" "LinearRows" "left" "LLinearRows$Table;" ∈ wG := List.mem_filter.mpr ⟨List.mem_append_right _ (List.mem_append_left _ (List.mem_of_getElem? (i := 92) rfl)), rfl⟩
theorem wm_1_93 : Cond.soleField "LinearRows" "left" ∈ wG := List.mem_filter.mpr ⟨List.mem_append_right _ (List.mem_append_left _ (List.mem_of_getElem? (i := 93) rfl)), rfl⟩
theorem wm_1_94 : Cond.laysFinal "LinearRows" "LinearRows" "trial" "LLinearRows$Table;" ∈ wG := List.mem_filter.mpr ⟨List.mem_append_right _ (List.mem_append_left _ (List.mem_of_getElem? (i := 94) rfl)), rfl⟩
theorem wm_1_95 : Cond.soleField "LinearRows" "trial" ∈ wG := List.mem_filter.mpr ⟨List.mem_append_right _ (List.mem_append_left _ (List.mem_of_getElem? (i := 95) rfl)), rfl⟩
theorem wm_1_96 : Cond.laysFinal "LinearRows" "LinearRows" "numbers" "[J" ∈ wG := List.mem_filter.mpr ⟨List.mem_append_right _ (List.mem_append_left _ (List.mem_of_getElem? (i := 96) rfl)), rfl⟩
theorem wm_1_97 : Cond.soleField "LinearRows" "numbers" ∈ wG := List.mem_filter.mpr ⟨List.mem_append_right _ (List.mem_append_left _ (List.mem_of_getElem? (i := 97) rfl)), rfl⟩
theorem wm_1_98 : Cond.laysFinal "LinearRows" "LinearRows" "neededRows" "[J" ∈ wG := List.mem_filter.mpr ⟨List.mem_append_right _ (List.mem_append_left _ (List.mem_of_getElem? (i := 98) rfl)), rfl⟩
theorem wm_1_99 : Cond.soleField "LinearRows" "neededRows" ∈ wG := List.mem_filter.mpr ⟨List.mem_append_right _ (List.mem_append_left _ (List.mem_of_getElem? (i := 99) rfl)), rfl⟩
theorem wm_1_100 : Cond.lays "LinearRows" "LinearRows" "neededCount" "I" ∈ wG := List.mem_filter.mpr ⟨List.mem_append_right _ (List.mem_append_left _ (List.mem_of_getElem? (i := 100) rfl)), rfl⟩
theorem wm_1_101 : Cond.soleField "LinearRows" "neededCount" ∈ wG := List.mem_filter.mpr ⟨List.mem_append_right _ (List.mem_append_left _ (List.mem_of_getElem? (i := 101) rfl)), rfl⟩
theorem wm_1_102 : Cond.superclass "LinearRows" "java/lang/Object" ∈ wG := List.mem_filter.mpr ⟨List.mem_append_right _ (List.mem_append_left _ (List.mem_of_getElem? (i := 102) rfl)), rfl⟩
theorem wm_1_103 : Cond.methodLink "LinearRowsLaw" 91 y_L_cell ∈ wG := List.mem_filter.mpr ⟨List.mem_append_right _ (List.mem_append_left _ (List.mem_of_getElem? (i := 103) rfl)), rfl⟩
theorem wm_1_104 : Cond.static y_L_cell ∈ wG := List.mem_filter.mpr ⟨List.mem_append_right _ (List.mem_append_left _ (List.mem_of_getElem? (i := 104) rfl)), rfl⟩
theorem wm_1_105 : Cond.code y_L_cell b_L_cell 2 (some .int) ∈ wG := List.mem_filter.mpr ⟨List.mem_append_right _ (List.mem_append_left _ (List.mem_of_getElem? (i := 105) rfl)), rfl⟩
theorem wm_1_106 : Cond.methodLink "LinearRowsLaw" 102 y_L_all ∈ wG := List.mem_filter.mpr ⟨List.mem_append_right _ (List.mem_append_left _ (List.mem_of_getElem? (i := 106) rfl)), rfl⟩
theorem wm_1_107 : Cond.static y_L_all ∈ wG := List.mem_filter.mpr ⟨List.mem_append_right _ (List.mem_append_left _ (List.mem_of_getElem? (i := 107) rfl)), rfl⟩
theorem wm_1_108 : Cond.codeWith y_L_all b_L_all 3 (some .int) h_L_all ∈ wG := List.mem_filter.mpr ⟨List.mem_append_right _ (List.mem_append_left _ (List.mem_of_getElem? (i := 108) rfl)), rfl⟩
theorem wm_1_109 : Cond.classLink "LinearRowsLaw" 13 "java/lang/IndexOutOfBoundsException" ∈ wG := List.mem_filter.mpr ⟨List.mem_append_right _ (List.mem_append_left _ (List.mem_of_getElem? (i := 109) rfl)), rfl⟩
theorem wm_1_110 : Cond.methodLink "LinearRowsLaw" 7 y_X_all ∈ wG := List.mem_filter.mpr ⟨List.mem_append_right _ (List.mem_append_left _ (List.mem_of_getElem? (i := 110) rfl)), rfl⟩
theorem wm_1_111 : Cond.instanceMethod y_X_all ∈ wG := List.mem_filter.mpr ⟨List.mem_append_right _ (List.mem_append_left _ (List.mem_of_getElem? (i := 111) rfl)), rfl⟩
theorem wm_1_112 : Cond.selects "LinearRows" y_X_all y_X_all ∈ wG := List.mem_filter.mpr ⟨List.mem_append_right _ (List.mem_append_left _ (List.mem_of_getElem? (i := 112) rfl)), rfl⟩
theorem wm_1_113 : Cond.code y_X_all b_X_all 2 none ∈ wG := List.mem_filter.mpr ⟨List.mem_append_right _ (List.mem_append_left _ (List.mem_of_getElem? (i := 113) rfl)), rfl⟩
theorem wm_1_114 : Cond.methodLink "LinearRows" 58 y_X_checkShape ∈ wG := List.mem_filter.mpr ⟨List.mem_append_right _ (List.mem_append_left _ (List.mem_of_getElem? (i := 114) rfl)), rfl⟩
theorem wm_1_115 : Cond.static y_X_checkShape ∈ wG := List.mem_filter.mpr ⟨List.mem_append_right _ (List.mem_append_left _ (List.mem_of_getElem? (i := 115) rfl)), rfl⟩
theorem wm_1_116 : Cond.code y_X_checkShape b_X_checkShape 1 none ∈ wG := List.mem_filter.mpr ⟨List.mem_append_right _ (List.mem_append_left _ (List.mem_of_getElem? (i := 116) rfl)), rfl⟩
theorem wm_1_117 : Cond.classLink "LinearRows" 163 "java/lang/IndexOutOfBoundsException" ∈ wG := List.mem_filter.mpr ⟨List.mem_append_right _ (List.mem_append_left _ (List.mem_of_getElem? (i := 117) rfl)), rfl⟩
theorem wm_1_118 : Cond.instantiable "java/lang/IndexOutOfBoundsException" 6 ∈ wG := List.mem_filter.mpr ⟨List.mem_append_right _ (List.mem_append_left _ (List.mem_of_getElem? (i := 118) rfl)), rfl⟩
theorem wm_1_126 : Cond.selects "java/lang/IndexOutOfBoundsException" ⟨"java/lang/Throwable", "fillInStackTrace", "(I)Ljava/lang/Throwable;"⟩ ⟨"java/lang/Throwable", "fillInStackTrace", "(I)Ljava/lang/Throwable;"⟩ ∈ wG := List.mem_filter.mpr ⟨List.mem_append_right _ (List.mem_append_left _ (List.mem_of_getElem? (i := 126) rfl)), rfl⟩
theorem wm_1_127 : Cond.selects "java/lang/IndexOutOfBoundsException" ⟨"java/lang/Throwable", "fillInStackTrace", "()Ljava/lang/Throwable;"⟩ ⟨"java/lang/Throwable", "fillInStackTrace", "()Ljava/lang/Throwable;"⟩ ∈ wG := List.mem_filter.mpr ⟨List.mem_append_right _ (List.mem_append_left _ (List.mem_of_getElem? (i := 127) rfl)), rfl⟩
theorem wm_1_128 : Cond.lays "java/lang/IndexOutOfBoundsException" "java/lang/Throwable" "cause" "Ljava/lang/Throwable;" ∈ wG := List.mem_filter.mpr ⟨List.mem_append_right _ (List.mem_append_left _ (List.mem_of_getElem? (i := 128) rfl)), rfl⟩
theorem wm_1_129 : Cond.lays "java/lang/Throwable" "java/lang/Throwable" "cause" "Ljava/lang/Throwable;" ∈ wG := List.mem_filter.mpr ⟨List.mem_append_right _ (List.mem_append_left _ (List.mem_of_getElem? (i := 129) rfl)), rfl⟩
theorem wm_1_130 : Cond.lays "java/lang/IndexOutOfBoundsException" "java/lang/Throwable" "stackTrace" "[Ljava/lang/StackTraceElement;" ∈ wG := List.mem_filter.mpr ⟨List.mem_append_right _ (List.mem_append_left _ (List.mem_of_getElem? (i := 130) rfl)), rfl⟩
theorem wm_1_131 : Cond.lays "java/lang/Throwable" "java/lang/Throwable" "stackTrace" "[Ljava/lang/StackTraceElement;" ∈ wG := List.mem_filter.mpr ⟨List.mem_append_right _ (List.mem_append_left _ (List.mem_of_getElem? (i := 131) rfl)), rfl⟩
theorem wm_1_132 : Cond.lays "java/lang/IndexOutOfBoundsException" "java/lang/Throwable" "suppressedExceptions" "Ljava/util/List;" ∈ wG := List.mem_filter.mpr ⟨List.mem_append_right _ (List.mem_append_left _ (List.mem_of_getElem? (i := 132) rfl)), rfl⟩
theorem wm_1_133 : Cond.lays "java/lang/Throwable" "java/lang/Throwable" "suppressedExceptions" "Ljava/util/List;" ∈ wG := List.mem_filter.mpr ⟨List.mem_append_right _ (List.mem_append_left _ (List.mem_of_getElem? (i := 133) rfl)), rfl⟩
theorem wm_1_134 : Cond.lays "java/lang/IndexOutOfBoundsException" "java/lang/Throwable" "detailMessage" "Ljava/lang/String;" ∈ wG := List.mem_filter.mpr ⟨List.mem_append_right _ (List.mem_append_left _ (List.mem_of_getElem? (i := 134) rfl)), rfl⟩
theorem wm_1_135 : Cond.lays "java/lang/Throwable" "java/lang/Throwable" "detailMessage" "Ljava/lang/String;" ∈ wG := List.mem_filter.mpr ⟨List.mem_append_right _ (List.mem_append_left _ (List.mem_of_getElem? (i := 135) rfl)), rfl⟩
theorem wm_1_136 : Cond.lays "java/lang/IndexOutOfBoundsException" "java/lang/Throwable" "backtrace" "Ljava/lang/Object;" ∈ wG := List.mem_filter.mpr ⟨List.mem_append_right _ (List.mem_append_left _ (List.mem_of_getElem? (i := 136) rfl)), rfl⟩
theorem wm_1_137 : Cond.lays "java/lang/Throwable" "java/lang/Throwable" "backtrace" "Ljava/lang/Object;" ∈ wG := List.mem_filter.mpr ⟨List.mem_append_right _ (List.mem_append_left _ (List.mem_of_getElem? (i := 137) rfl)), rfl⟩
theorem wm_1_138 : Cond.fieldLink "java/lang/Throwable" 198 "java/lang/Throwable" "backtrace" "Ljava/lang/Object;" ∈ wG := List.mem_filter.mpr ⟨List.mem_append_right _ (List.mem_append_left _ (List.mem_of_getElem? (i := 138) rfl)), rfl⟩
theorem wm_1_139 : Cond.superclass "java/lang/Throwable" "java/lang/Object" ∈ wG := List.mem_filter.mpr ⟨List.mem_append_right _ (List.mem_append_left _ (List.mem_of_getElem? (i := 139) rfl)), rfl⟩
theorem wm_1_140 : Cond.instanceMethod ⟨"java/lang/Throwable", "<init>", "()V"⟩ ∈ wG := List.mem_filter.mpr ⟨List.mem_append_right _ (List.mem_append_left _ (List.mem_of_getElem? (i := 140) rfl)), rfl⟩
theorem wm_1_142 : Cond.methodLink "java/lang/Throwable" 1 ⟨"java/lang/Object", "<init>", "()V"⟩ ∈ wG := List.mem_filter.mpr ⟨List.mem_append_right _ (List.mem_append_left _ (List.mem_of_getElem? (i := 142) rfl)), rfl⟩
theorem wm_1_143 : Cond.fieldLink "java/lang/Throwable" 13 "java/lang/Throwable" "UNASSIGNED_STACK" "[Ljava/lang/StackTraceElement;" ∈ wG := List.mem_filter.mpr ⟨List.mem_append_right _ (List.mem_append_left _ (List.mem_of_getElem? (i := 143) rfl)), rfl⟩
theorem wm_1_145 : Cond.fieldLink "java/lang/Throwable" 20 "java/lang/Throwable" "SUPPRESSED_SENTINEL" "Ljava/util/List;" ∈ wG := List.mem_filter.mpr ⟨List.mem_append_right _ (List.mem_append_left _ (List.mem_of_getElem? (i := 145) rfl)), rfl⟩
theorem wm_1_147 : Cond.methodLink "java/lang/Throwable" 27 ⟨"java/lang/Throwable", "fillInStackTrace", "()Ljava/lang/Throwable;"⟩ ∈ wG := List.mem_filter.mpr ⟨List.mem_append_right _ (List.mem_append_left _ (List.mem_of_getElem? (i := 147) rfl)), rfl⟩
theorem wm_1_148 : Cond.instanceMethod ⟨"java/lang/Throwable", "fillInStackTrace", "()Ljava/lang/Throwable;"⟩ ∈ wG := List.mem_filter.mpr ⟨List.mem_append_right _ (List.mem_append_left _ (List.mem_of_getElem? (i := 148) rfl)), rfl⟩
theorem wm_1_150 : Cond.selects "java/lang/ArithmeticException" ⟨"java/lang/Throwable", "fillInStackTrace", "()Ljava/lang/Throwable;"⟩ ⟨"java/lang/Throwable", "fillInStackTrace", "()Ljava/lang/Throwable;"⟩ ∈ wG := List.mem_filter.mpr ⟨List.mem_append_right _ (List.mem_append_left _ (List.mem_of_getElem? (i := 150) rfl)), rfl⟩
theorem wm_1_151 : Cond.selects "java/lang/IllegalArgumentException" ⟨"java/lang/Throwable", "fillInStackTrace", "()Ljava/lang/Throwable;"⟩ ⟨"java/lang/Throwable", "fillInStackTrace", "()Ljava/lang/Throwable;"⟩ ∈ wG := List.mem_filter.mpr ⟨List.mem_append_right _ (List.mem_append_left _ (List.mem_of_getElem? (i := 151) rfl)), rfl⟩
theorem wm_1_153 : Cond.methodLink "java/lang/Throwable" 202 ⟨"java/lang/Throwable", "fillInStackTrace", "(I)Ljava/lang/Throwable;"⟩ ∈ wG := List.mem_filter.mpr ⟨List.mem_append_right _ (List.mem_append_left _ (List.mem_of_getElem? (i := 153) rfl)), rfl⟩
theorem wm_1_155 : Cond.instanceMethod ⟨"java/lang/Throwable", "fillInStackTrace", "(I)Ljava/lang/Throwable;"⟩ ∈ wG := List.mem_filter.mpr ⟨List.mem_append_right _ (List.mem_append_left _ (List.mem_of_getElem? (i := 155) rfl)), rfl⟩
theorem wm_1_156 : Cond.instantiable "java/lang/Throwable" 6 ∈ wG := List.mem_filter.mpr ⟨List.mem_append_right _ (List.mem_append_left _ (List.mem_of_getElem? (i := 156) rfl)), rfl⟩
theorem wm_1_157 : Cond.native ⟨"java/lang/Throwable", "fillInStackTrace", "(I)Ljava/lang/Throwable;"⟩ ∈ wG := List.mem_filter.mpr ⟨List.mem_append_right _ (List.mem_append_left _ (List.mem_of_getElem? (i := 157) rfl)), rfl⟩
theorem wm_1_159 : Cond.methodLink "LinearRows" 167 ⟨"java/lang/IndexOutOfBoundsException", "<init>", "(Ljava/lang/String;)V"⟩ ∈ wG := List.mem_filter.mpr ⟨List.mem_append_right _ (List.mem_append_left _ (List.mem_of_getElem? (i := 159) rfl)), rfl⟩
theorem wm_1_160 : Cond.instanceMethod ⟨"java/lang/IndexOutOfBoundsException", "<init>", "(Ljava/lang/String;)V"⟩ ∈ wG := List.mem_filter.mpr ⟨List.mem_append_right _ (List.mem_append_left _ (List.mem_of_getElem? (i := 160) rfl)), rfl⟩
theorem wm_1_162 : Cond.methodLink "java/lang/IndexOutOfBoundsException" 7 ⟨"java/lang/RuntimeException", "<init>", "(Ljava/lang/String;)V"⟩ ∈ wG := List.mem_filter.mpr ⟨List.mem_append_right _ (List.mem_append_left _ (List.mem_of_getElem? (i := 162) rfl)), rfl⟩
theorem wm_1_163 : Cond.instanceMethod ⟨"java/lang/RuntimeException", "<init>", "(Ljava/lang/String;)V"⟩ ∈ wG := List.mem_filter.mpr ⟨List.mem_append_right _ (List.mem_append_left _ (List.mem_of_getElem? (i := 163) rfl)), rfl⟩
theorem wm_1_165 : Cond.methodLink "java/lang/RuntimeException" 7 ⟨"java/lang/Exception", "<init>", "(Ljava/lang/String;)V"⟩ ∈ wG := List.mem_filter.mpr ⟨List.mem_append_right _ (List.mem_append_left _ (List.mem_of_getElem? (i := 165) rfl)), rfl⟩
theorem wm_1_166 : Cond.instanceMethod ⟨"java/lang/Exception", "<init>", "(Ljava/lang/String;)V"⟩ ∈ wG := List.mem_filter.mpr ⟨List.mem_append_right _ (List.mem_append_left _ (List.mem_of_getElem? (i := 166) rfl)), rfl⟩
theorem wm_1_168 : Cond.methodLink "java/lang/Exception" 7 ⟨"java/lang/Throwable", "<init>", "(Ljava/lang/String;)V"⟩ ∈ wG := List.mem_filter.mpr ⟨List.mem_append_right _ (List.mem_append_left _ (List.mem_of_getElem? (i := 168) rfl)), rfl⟩
theorem wm_1_169 : Cond.instanceMethod ⟨"java/lang/Throwable", "<init>", "(Ljava/lang/String;)V"⟩ ∈ wG := List.mem_filter.mpr ⟨List.mem_append_right _ (List.mem_append_left _ (List.mem_of_getElem? (i := 169) rfl)), rfl⟩
theorem wm_1_171 : Cond.fieldLink "java/lang/Throwable" 198 "java/lang/Throwable" "backtrace" "Ljava/lang/Object;" ∈ wG := List.mem_filter.mpr ⟨List.mem_append_right _ (List.mem_append_left _ (List.mem_of_getElem? (i := 171) rfl)), rfl⟩
theorem wm_1_172 : Cond.fieldLink "java/lang/Throwable" 31 "java/lang/Throwable" "detailMessage" "Ljava/lang/String;" ∈ wG := List.mem_filter.mpr ⟨List.mem_append_right _ (List.mem_append_left _ (List.mem_of_getElem? (i := 172) rfl)), rfl⟩
theorem wm_1_173 : Cond.fieldLink "java/lang/Throwable" 7 "java/lang/Throwable" "cause" "Ljava/lang/Throwable;" ∈ wG := List.mem_filter.mpr ⟨List.mem_append_right _ (List.mem_append_left _ (List.mem_of_getElem? (i := 173) rfl)), rfl⟩
theorem wm_1_174 : Cond.fieldLink "java/lang/Throwable" 17 "java/lang/Throwable" "stackTrace" "[Ljava/lang/StackTraceElement;" ∈ wG := List.mem_filter.mpr ⟨List.mem_append_right _ (List.mem_append_left _ (List.mem_of_getElem? (i := 174) rfl)), rfl⟩
theorem wm_1_175 : Cond.fieldLink "java/lang/Throwable" 24 "java/lang/Throwable" "suppressedExceptions" "Ljava/util/List;" ∈ wG := List.mem_filter.mpr ⟨List.mem_append_right _ (List.mem_append_left _ (List.mem_of_getElem? (i := 175) rfl)), rfl⟩
theorem wm_1_176 : Cond.soleField "java/lang/Throwable" "backtrace" ∈ wG := List.mem_filter.mpr ⟨List.mem_append_right _ (List.mem_append_left _ (List.mem_of_getElem? (i := 176) rfl)), rfl⟩
theorem wm_1_177 : Cond.soleField "java/lang/Throwable" "detailMessage" ∈ wG := List.mem_filter.mpr ⟨List.mem_append_right _ (List.mem_append_left _ (List.mem_of_getElem? (i := 177) rfl)), rfl⟩
theorem wm_1_178 : Cond.soleField "java/lang/Throwable" "cause" ∈ wG := List.mem_filter.mpr ⟨List.mem_append_right _ (List.mem_append_left _ (List.mem_of_getElem? (i := 178) rfl)), rfl⟩
theorem wm_1_179 : Cond.soleField "java/lang/Throwable" "stackTrace" ∈ wG := List.mem_filter.mpr ⟨List.mem_append_right _ (List.mem_append_left _ (List.mem_of_getElem? (i := 179) rfl)), rfl⟩
theorem wm_1_180 : Cond.lays "java/lang/IndexOutOfBoundsException" "java/lang/Throwable" "depth" "I" ∈ wG := List.mem_filter.mpr ⟨List.mem_append_right _ (List.mem_append_left _ (List.mem_of_getElem? (i := 180) rfl)), rfl⟩
theorem wm_1_181 : Cond.soleField "java/lang/Throwable" "depth" ∈ wG := List.mem_filter.mpr ⟨List.mem_append_right _ (List.mem_append_left _ (List.mem_of_getElem? (i := 181) rfl)), rfl⟩
theorem wm_1_182 : Cond.soleField "java/lang/Throwable" "suppressedExceptions" ∈ wG := List.mem_filter.mpr ⟨List.mem_append_right _ (List.mem_append_left _ (List.mem_of_getElem? (i := 182) rfl)), rfl⟩
theorem wm_1_183 : Cond.superclass "java/lang/IndexOutOfBoundsException" "java/lang/RuntimeException" ∈ wG := List.mem_filter.mpr ⟨List.mem_append_right _ (List.mem_append_left _ (List.mem_of_getElem? (i := 183) rfl)), rfl⟩
theorem wm_1_184 : Cond.arrayClass FieldType.byte ∈ wG := List.mem_filter.mpr ⟨List.mem_append_right _ (List.mem_append_left _ (List.mem_of_getElem? (i := 184) rfl)), rfl⟩
theorem wm_1_185 : Cond.methodLink "LinearRows" 61 y_S_becomeAll ∈ wG := List.mem_filter.mpr ⟨List.mem_append_right _ (List.mem_append_left _ (List.mem_of_getElem? (i := 185) rfl)), rfl⟩
theorem wm_1_186 : Cond.instanceMethod y_S_becomeAll ∈ wG := List.mem_filter.mpr ⟨List.mem_append_right _ (List.mem_append_left _ (List.mem_of_getElem? (i := 186) rfl)), rfl⟩
theorem wm_1_187 : Cond.selects "LinearRows$Shape" y_S_becomeAll y_S_becomeAll ∈ wG := List.mem_filter.mpr ⟨List.mem_append_right _ (List.mem_append_left _ (List.mem_of_getElem? (i := 187) rfl)), rfl⟩
theorem wm_1_188 : Cond.code y_S_becomeAll b_S_becomeAll 1 none ∈ wG := List.mem_filter.mpr ⟨List.mem_append_right _ (List.mem_append_left _ (List.mem_of_getElem? (i := 188) rfl)), rfl⟩
theorem wm_1_189 : Cond.methodLink "LinearRows$Shape" 35 y_T_dropRows ∈ wG := List.mem_filter.mpr ⟨List.mem_append_right _ (List.mem_append_left _ (List.mem_of_getElem? (i := 189) rfl)), rfl⟩
theorem wm_1_190 : Cond.instanceMethod y_T_dropRows ∈ wG := List.mem_filter.mpr ⟨List.mem_append_right _ (List.mem_append_left _ (List.mem_of_getElem? (i := 190) rfl)), rfl⟩
theorem wm_1_191 : Cond.selects "LinearRows$Table" y_T_dropRows y_T_dropRows ∈ wG := List.mem_filter.mpr ⟨List.mem_append_right _ (List.mem_append_left _ (List.mem_of_getElem? (i := 191) rfl)), rfl⟩
theorem wm_1_192 : Cond.code y_T_dropRows b_T_dropRows 1 none ∈ wG := List.mem_filter.mpr ⟨List.mem_append_right _ (List.mem_append_left _ (List.mem_of_getElem? (i := 192) rfl)), rfl⟩
theorem wm_1_193 : Cond.methodLink "LinearRowsLaw" 112 y_L_row ∈ wG := List.mem_filter.mpr ⟨List.mem_append_right _ (List.mem_append_left _ (List.mem_of_getElem? (i := 193) rfl)), rfl⟩
theorem wm_1_194 : Cond.static y_L_row ∈ wG := List.mem_filter.mpr ⟨List.mem_append_right _ (List.mem_append_left _ (List.mem_of_getElem? (i := 194) rfl)), rfl⟩
theorem wm_1_195 : Cond.codeWith y_L_row b_L_row 8 (some .int) h_L_row ∈ wG := List.mem_filter.mpr ⟨List.mem_append_right _ (List.mem_append_left _ (List.mem_of_getElem? (i := 195) rfl)), rfl⟩
theorem wm_1_196 : Cond.classLink "LinearRowsLaw" 19 "java/lang/IllegalArgumentException" ∈ wG := List.mem_filter.mpr ⟨List.mem_append_right _ (List.mem_append_left _ (List.mem_of_getElem? (i := 196) rfl)), rfl⟩
theorem wm_1_197 : Cond.classLink "LinearRowsLaw" 21 "java/lang/ArithmeticException" ∈ wG := List.mem_filter.mpr ⟨List.mem_append_right _ (List.mem_append_left _ (List.mem_of_getElem? (i := 197) rfl)), rfl⟩
theorem wm_1_198 : Cond.methodLink "LinearRowsLaw" 15 y_X_row ∈ wG := List.mem_filter.mpr ⟨List.mem_append_right _ (List.mem_append_left _ (List.mem_of_getElem? (i := 198) rfl)), rfl⟩
theorem wm_1_199 : Cond.instanceMethod y_X_row ∈ wG := List.mem_filter.mpr ⟨List.mem_append_right _ (List.mem_append_left _ (List.mem_of_getElem? (i := 199) rfl)), rfl⟩
theorem wm_1_200 : Cond.selects "LinearRows" y_X_row y_X_row ∈ wG := List.mem_filter.mpr ⟨List.mem_append_right _ (List.mem_append_left _ (List.mem_of_getElem? (i := 200) rfl)), rfl⟩
theorem wm_1_201 : Cond.code y_X_row b_X_row 6 (some .int) ∈ wG := List.mem_filter.mpr ⟨List.mem_append_right _ (List.mem_append_left _ (List.mem_of_getElem? (i := 201) rfl)), rfl⟩
theorem wm_1_202 : Cond.methodLink "LinearRows" 64 y_X_checkTerm ∈ wG := List.mem_filter.mpr ⟨List.mem_append_right _ (List.mem_append_left _ (List.mem_of_getElem? (i := 202) rfl)), rfl⟩
theorem wm_1_204 : Cond.instanceMethod y_X_checkTerm ∈ wG := List.mem_filter.mpr ⟨List.mem_append_right _ (List.mem_append_left _ (List.mem_of_getElem? (i := 204) rfl)), rfl⟩
theorem wm_1_205 : Cond.code y_X_checkTerm b_X_checkTerm 2 none ∈ wG := List.mem_filter.mpr ⟨List.mem_append_right _ (List.mem_append_left _ (List.mem_of_getElem? (i := 205) rfl)), rfl⟩
theorem wm_1_207 : Cond.methodLink "LinearRows" 67 y_X_checkGiven ∈ wG := List.mem_filter.mpr ⟨List.mem_append_right _ (List.mem_append_left _ (List.mem_of_getElem? (i := 207) rfl)), rfl⟩
theorem wm_1_208 : Cond.static y_X_checkGiven ∈ wG := List.mem_filter.mpr ⟨List.mem_append_right _ (List.mem_append_left _ (List.mem_of_getElem? (i := 208) rfl)), rfl⟩
theorem wm_1_209 : Cond.code y_X_checkGiven b_X_checkGiven 2 none ∈ wG := List.mem_filter.mpr ⟨List.mem_append_right _ (List.mem_append_left _ (List.mem_of_getElem? (i := 209) rfl)), rfl⟩
theorem wm_1_210 : Cond.constantLong "LinearRows" 202 (-1000000000) ∈ wG := List.mem_filter.mpr ⟨List.mem_append_right _ (List.mem_append_left _ (List.mem_of_getElem? (i := 210) rfl)), rfl⟩
theorem wm_1_211 : Cond.constantLong "LinearRows" 204 1000000000 ∈ wG := List.mem_filter.mpr ⟨List.mem_append_right _ (List.mem_append_left _ (List.mem_of_getElem? (i := 211) rfl)), rfl⟩
theorem wm_1_212 : Cond.classLink "LinearRows" 170 "java/lang/IllegalArgumentException" ∈ wG := List.mem_filter.mpr ⟨List.mem_append_right _ (List.mem_append_left _ (List.mem_of_getElem? (i := 212) rfl)), rfl⟩
theorem wm_1_213 : Cond.instantiable "java/lang/IllegalArgumentException" 6 ∈ wG := List.mem_filter.mpr ⟨List.mem_append_right _ (List.mem_append_left _ (List.mem_of_getElem? (i := 213) rfl)), rfl⟩
theorem wm_1_215 : Cond.selects "java/lang/IllegalArgumentException" ⟨"java/lang/Throwable", "fillInStackTrace", "(I)Ljava/lang/Throwable;"⟩ ⟨"java/lang/Throwable", "fillInStackTrace", "(I)Ljava/lang/Throwable;"⟩ ∈ wG := List.mem_filter.mpr ⟨List.mem_append_right _ (List.mem_append_left _ (List.mem_of_getElem? (i := 215) rfl)), rfl⟩
theorem wm_1_216 : Cond.lays "java/lang/IllegalArgumentException" "java/lang/Throwable" "cause" "Ljava/lang/Throwable;" ∈ wG := List.mem_filter.mpr ⟨List.mem_append_right _ (List.mem_append_left _ (List.mem_of_getElem? (i := 216) rfl)), rfl⟩
theorem wm_1_217 : Cond.lays "java/lang/IllegalArgumentException" "java/lang/Throwable" "stackTrace" "[Ljava/lang/StackTraceElement;" ∈ wG := List.mem_filter.mpr ⟨List.mem_append_right _ (List.mem_append_left _ (List.mem_of_getElem? (i := 217) rfl)), rfl⟩
theorem wm_1_218 : Cond.lays "java/lang/IllegalArgumentException" "java/lang/Throwable" "suppressedExceptions" "Ljava/util/List;" ∈ wG := List.mem_filter.mpr ⟨List.mem_append_right _ (List.mem_append_left _ (List.mem_of_getElem? (i := 218) rfl)), rfl⟩
theorem wm_1_219 : Cond.lays "java/lang/IllegalArgumentException" "java/lang/Throwable" "detailMessage" "Ljava/lang/String;" ∈ wG := List.mem_filter.mpr ⟨List.mem_append_right _ (List.mem_append_left _ (List.mem_of_getElem? (i := 219) rfl)), rfl⟩
theorem wm_1_220 : Cond.lays "java/lang/IllegalArgumentException" "java/lang/Throwable" "backtrace" "Ljava/lang/Object;" ∈ wG := List.mem_filter.mpr ⟨List.mem_append_right _ (List.mem_append_left _ (List.mem_of_getElem? (i := 220) rfl)), rfl⟩
theorem wm_1_222 : Cond.methodLink "LinearRows" 174 ⟨"java/lang/IllegalArgumentException", "<init>", "(Ljava/lang/String;)V"⟩ ∈ wG := List.mem_filter.mpr ⟨List.mem_append_right _ (List.mem_append_left _ (List.mem_of_getElem? (i := 222) rfl)), rfl⟩
theorem wm_1_223 : Cond.instanceMethod ⟨"java/lang/IllegalArgumentException", "<init>", "(Ljava/lang/String;)V"⟩ ∈ wG := List.mem_filter.mpr ⟨List.mem_append_right _ (List.mem_append_left _ (List.mem_of_getElem? (i := 223) rfl)), rfl⟩
theorem wm_1_225 : Cond.methodLink "java/lang/IllegalArgumentException" 7 ⟨"java/lang/RuntimeException", "<init>", "(Ljava/lang/String;)V"⟩ ∈ wG := List.mem_filter.mpr ⟨List.mem_append_right _ (List.mem_append_left _ (List.mem_of_getElem? (i := 225) rfl)), rfl⟩
theorem wm_1_226 : Cond.lays "java/lang/IllegalArgumentException" "java/lang/Throwable" "depth" "I" ∈ wG := List.mem_filter.mpr ⟨List.mem_append_right _ (List.mem_append_left _ (List.mem_of_getElem? (i := 226) rfl)), rfl⟩
theorem wm_1_227 : Cond.superclass "java/lang/IllegalArgumentException" "java/lang/RuntimeException" ∈ wG := List.mem_filter.mpr ⟨List.mem_append_right _ (List.mem_append_left _ (List.mem_of_getElem? (i := 227) rfl)), rfl⟩
theorem wm_1_228 : Cond.methodLink "LinearRows" 71 y_S_becomeLike ∈ wG := List.mem_filter.mpr ⟨List.mem_append_right _ (List.mem_append_left _ (List.mem_of_getElem? (i := 228) rfl)), rfl⟩
theorem wm_1_229 : Cond.instanceMethod y_S_becomeLike ∈ wG := List.mem_filter.mpr ⟨List.mem_append_right _ (List.mem_append_left _ (List.mem_of_getElem? (i := 229) rfl)), rfl⟩
theorem wm_1_230 : Cond.selects "LinearRows$Shape" y_S_becomeLike y_S_becomeLike ∈ wG := List.mem_filter.mpr ⟨List.mem_append_right _ (List.mem_append_left _ (List.mem_of_getElem? (i := 230) rfl)), rfl⟩
theorem wm_1_231 : Cond.code y_S_becomeLike b_S_becomeLike 2 none ∈ wG := List.mem_filter.mpr ⟨List.mem_append_right _ (List.mem_append_left _ (List.mem_of_getElem? (i := 231) rfl)), rfl⟩
theorem wm_1_232 : Cond.methodLink "LinearRows$Shape" 41 y_T_takeFrom ∈ wG := List.mem_filter.mpr ⟨List.mem_append_right _ (List.mem_append_left _ (List.mem_of_getElem? (i := 232) rfl)), rfl⟩
theorem wm_1_233 : Cond.instanceMethod y_T_takeFrom ∈ wG := List.mem_filter.mpr ⟨List.mem_append_right _ (List.mem_append_left _ (List.mem_of_getElem? (i := 233) rfl)), rfl⟩
theorem wm_1_234 : Cond.selects "LinearRows$Table" y_T_takeFrom y_T_takeFrom ∈ wG := List.mem_filter.mpr ⟨List.mem_append_right _ (List.mem_append_left _ (List.mem_of_getElem? (i := 234) rfl)), rfl⟩
theorem wm_1_235 : Cond.code y_T_takeFrom b_T_takeFrom 2 none ∈ wG := List.mem_filter.mpr ⟨List.mem_append_right _ (List.mem_append_left _ (List.mem_of_getElem? (i := 235) rfl)), rfl⟩
theorem wm_1_236 : Cond.methodLink "LinearRows$Table" 51 y_JM_min ∈ wG := List.mem_filter.mpr ⟨List.mem_append_right _ (List.mem_append_left _ (List.mem_of_getElem? (i := 236) rfl)), rfl⟩
theorem wm_1_237 : Cond.methodLink "LinearRows$Table" 54 ⟨"java/lang/System", "arraycopy", "(Ljava/lang/Object;ILjava/lang/Object;II)V"⟩ ∈ wG := List.mem_filter.mpr ⟨List.mem_append_right _ (List.mem_append_left _ (List.mem_of_getElem? (i := 237) rfl)), rfl⟩
theorem wm_1_238 : Cond.static ⟨"java/lang/System", "arraycopy", "(Ljava/lang/Object;ILjava/lang/Object;II)V"⟩ ∈ wG := List.mem_filter.mpr ⟨List.mem_append_right _ (List.mem_append_left _ (List.mem_of_getElem? (i := 238) rfl)), rfl⟩
theorem wm_1_239 : Cond.native ⟨"java/lang/System", "arraycopy", "(Ljava/lang/Object;ILjava/lang/Object;II)V"⟩ ∈ wG := List.mem_filter.mpr ⟨List.mem_append_right _ (List.mem_append_left _ (List.mem_of_getElem? (i := 239) rfl)), rfl⟩
theorem wm_2_0 : Cond.methodLink "LinearRows" 75 y_S_addRow ∈ wG := List.mem_filter.mpr ⟨List.mem_append_right _ (List.mem_append_right _ (List.mem_append_left _ (List.mem_of_getElem? (i := 0) rfl))), rfl⟩
theorem wm_2_1 : Cond.instanceMethod y_S_addRow ∈ wG := List.mem_filter.mpr ⟨List.mem_append_right _ (List.mem_append_right _ (List.mem_append_left _ (List.mem_of_getElem? (i := 1) rfl))), rfl⟩
theorem wm_2_2 : Cond.selects "LinearRows$Shape" y_S_addRow y_S_addRow ∈ wG := List.mem_filter.mpr ⟨List.mem_append_right _ (List.mem_append_right _ (List.mem_append_left _ (List.mem_of_getElem? (i := 2) rfl))), rfl⟩
theorem wm_2_3 : Cond.code y_S_addRow b_S_addRow 6 none ∈ wG := List.mem_filter.mpr ⟨List.mem_append_right _ (List.mem_append_right _ (List.mem_append_left _ (List.mem_of_getElem? (i := 3) rfl))), rfl⟩
theorem wm_2_4 : Cond.methodLink "LinearRows$Shape" 51 y_S_becomeEmpty ∈ wG := List.mem_filter.mpr ⟨List.mem_append_right _ (List.mem_append_right _ (List.mem_append_left _ (List.mem_of_getElem? (i := 4) rfl))), rfl⟩
theorem wm_2_5 : Cond.instanceMethod y_S_becomeEmpty ∈ wG := List.mem_filter.mpr ⟨List.mem_append_right _ (List.mem_append_right _ (List.mem_append_left _ (List.mem_of_getElem? (i := 5) rfl))), rfl⟩
theorem wm_2_6 : Cond.selects "LinearRows$Shape" y_S_becomeEmpty y_S_becomeEmpty ∈ wG := List.mem_filter.mpr ⟨List.mem_append_right _ (List.mem_append_right _ (List.mem_append_left _ (List.mem_of_getElem? (i := 6) rfl))), rfl⟩
theorem wm_2_7 : Cond.code y_S_becomeEmpty b_S_becomeEmpty 1 none ∈ wG := List.mem_filter.mpr ⟨List.mem_append_right _ (List.mem_append_right _ (List.mem_append_left _ (List.mem_of_getElem? (i := 7) rfl))), rfl⟩
theorem wm_2_8 : Cond.methodLink "LinearRows$Shape" 38 y_S_becomeAll ∈ wG := List.mem_filter.mpr ⟨List.mem_append_right _ (List.mem_append_right _ (List.mem_append_left _ (List.mem_of_getElem? (i := 8) rfl))), rfl⟩
theorem wm_2_10 : Cond.static y_X_placeOf ∈ wG := List.mem_filter.mpr ⟨List.mem_append_right _ (List.mem_append_right _ (List.mem_append_left _ (List.mem_of_getElem? (i := 10) rfl))), rfl⟩
theorem wm_2_11 : Cond.code y_X_placeOf b_X_placeOf 1 (some .int) ∈ wG := List.mem_filter.mpr ⟨List.mem_append_right _ (List.mem_append_right _ (List.mem_append_left _ (List.mem_of_getElem? (i := 11) rfl))), rfl⟩
theorem wm_2_12 : Cond.constantLong "LinearRows$Shape" 58 2 ∈ wG := List.mem_filter.mpr ⟨List.mem_append_right _ (List.mem_append_right _ (List.mem_append_left _ (List.mem_of_getElem? (i := 12) rfl))), rfl⟩
theorem wm_2_13 : Cond.methodLink "LinearRows$Shape" 60 y_T_lowerTo ∈ wG := List.mem_filter.mpr ⟨List.mem_append_right _ (List.mem_append_right _ (List.mem_append_left _ (List.mem_of_getElem? (i := 13) rfl))), rfl⟩
theorem wm_2_14 : Cond.instanceMethod y_T_lowerTo ∈ wG := List.mem_filter.mpr ⟨List.mem_append_right _ (List.mem_append_right _ (List.mem_append_left _ (List.mem_of_getElem? (i := 14) rfl))), rfl⟩
theorem wm_2_15 : Cond.selects "LinearRows$Table" y_T_lowerTo y_T_lowerTo ∈ wG := List.mem_filter.mpr ⟨List.mem_append_right _ (List.mem_append_right _ (List.mem_append_left _ (List.mem_of_getElem? (i := 15) rfl))), rfl⟩
theorem wm_2_16 : Cond.code y_T_lowerTo b_T_lowerTo 5 none ∈ wG := List.mem_filter.mpr ⟨List.mem_append_right _ (List.mem_append_right _ (List.mem_append_left _ (List.mem_of_getElem? (i := 16) rfl))), rfl⟩
theorem wm_2_17 : Cond.methodLink "LinearRows$Table" 27 y_T_at ∈ wG := List.mem_filter.mpr ⟨List.mem_append_right _ (List.mem_append_right _ (List.mem_append_left _ (List.mem_of_getElem? (i := 17) rfl))), rfl⟩
theorem wm_2_18 : Cond.instanceMethod y_T_at ∈ wG := List.mem_filter.mpr ⟨List.mem_append_right _ (List.mem_append_right _ (List.mem_append_left _ (List.mem_of_getElem? (i := 18) rfl))), rfl⟩
theorem wm_2_19 : Cond.selects "LinearRows$Table" y_T_at y_T_at ∈ wG := List.mem_filter.mpr ⟨List.mem_append_right _ (List.mem_append_right _ (List.mem_append_left _ (List.mem_of_getElem? (i := 19) rfl))), rfl⟩
theorem wm_2_20 : Cond.code y_T_at b_T_at 3 (some .long) ∈ wG := List.mem_filter.mpr ⟨List.mem_append_right _ (List.mem_append_right _ (List.mem_append_left _ (List.mem_of_getElem? (i := 20) rfl))), rfl⟩
theorem wm_2_21 : Cond.methodLink "LinearRows$Table" 41 y_JM_min_JJJ ∈ wG := List.mem_filter.mpr ⟨List.mem_append_right _ (List.mem_append_right _ (List.mem_append_left _ (List.mem_of_getElem? (i := 21) rfl))), rfl⟩
theorem wm_2_22 : Cond.static y_JM_min_JJJ ∈ wG := List.mem_filter.mpr ⟨List.mem_append_right _ (List.mem_append_right _ (List.mem_append_left _ (List.mem_of_getElem? (i := 22) rfl))), rfl⟩
theorem wm_2_23 : Cond.code y_JM_min_JJJ b_JM_min_JJJ 4 (some .long) ∈ wG := List.mem_filter.mpr ⟨List.mem_append_right _ (List.mem_append_right _ (List.mem_append_left _ (List.mem_of_getElem? (i := 23) rfl))), rfl⟩
theorem wm_2_24 : Cond.methodLink "LinearRows$Table" 47 y_T_store ∈ wG := List.mem_filter.mpr ⟨List.mem_append_right _ (List.mem_append_right _ (List.mem_append_left _ (List.mem_of_getElem? (i := 24) rfl))), rfl⟩
theorem wm_2_25 : Cond.instanceMethod y_T_store ∈ wG := List.mem_filter.mpr ⟨List.mem_append_right _ (List.mem_append_right _ (List.mem_append_left _ (List.mem_of_getElem? (i := 25) rfl))), rfl⟩
theorem wm_2_26 : Cond.selects "LinearRows$Table" y_T_store y_T_store ∈ wG := List.mem_filter.mpr ⟨List.mem_append_right _ (List.mem_append_right _ (List.mem_append_left _ (List.mem_of_getElem? (i := 26) rfl))), rfl⟩
theorem wm_2_27 : Cond.code y_T_store b_T_store 5 none ∈ wG := List.mem_filter.mpr ⟨List.mem_append_right _ (List.mem_append_right _ (List.mem_append_left _ (List.mem_of_getElem? (i := 27) rfl))), rfl⟩
theorem wm_2_28 : Cond.methodLink "LinearRows$Shape" 64 y_JM_floorDiv ∈ wG := List.mem_filter.mpr ⟨List.mem_append_right _ (List.mem_append_right _ (List.mem_append_left _ (List.mem_of_getElem? (i := 28) rfl))), rfl⟩
theorem wm_2_29 : Cond.static y_JM_floorDiv ∈ wG := List.mem_filter.mpr ⟨List.mem_append_right _ (List.mem_append_right _ (List.mem_append_left _ (List.mem_of_getElem? (i := 29) rfl))), rfl⟩
theorem wm_2_30 : Cond.code y_JM_floorDiv b_JM_floorDiv 6 (some .long) ∈ wG := List.mem_filter.mpr ⟨List.mem_append_right _ (List.mem_append_right _ (List.mem_append_left _ (List.mem_of_getElem? (i := 30) rfl))), rfl⟩
theorem wm_2_31 : Cond.methodLink "LinearRows$Shape" 70 y_S_closeKeptRows ∈ wG := List.mem_filter.mpr ⟨List.mem_append_right _ (List.mem_append_right _ (List.mem_append_left _ (List.mem_of_getElem? (i := 31) rfl))), rfl⟩
theorem wm_2_33 : Cond.instanceMethod y_S_closeKeptRows ∈ wG := List.mem_filter.mpr ⟨List.mem_append_right _ (List.mem_append_right _ (List.mem_append_left _ (List.mem_of_getElem? (i := 33) rfl))), rfl⟩
theorem wm_2_34 : Cond.code y_S_closeKeptRows b_S_closeKeptRows 1 none ∈ wG := List.mem_filter.mpr ⟨List.mem_append_right _ (List.mem_append_right _ (List.mem_append_left _ (List.mem_of_getElem? (i := 34) rfl))), rfl⟩
theorem wm_2_35 : Cond.methodLink "LinearRows$Shape" 111 y_T_close ∈ wG := List.mem_filter.mpr ⟨List.mem_append_right _ (List.mem_append_right _ (List.mem_append_left _ (List.mem_of_getElem? (i := 35) rfl))), rfl⟩
theorem wm_2_36 : Cond.instanceMethod y_T_close ∈ wG := List.mem_filter.mpr ⟨List.mem_append_right _ (List.mem_append_right _ (List.mem_append_left _ (List.mem_of_getElem? (i := 36) rfl))), rfl⟩
theorem wm_2_37 : Cond.selects "LinearRows$Table" y_T_close y_T_close ∈ wG := List.mem_filter.mpr ⟨List.mem_append_right _ (List.mem_append_right _ (List.mem_append_left _ (List.mem_of_getElem? (i := 37) rfl))), rfl⟩
theorem wm_2_38 : Cond.code y_T_close b_T_close 2 (some .boolean) ∈ wG := List.mem_filter.mpr ⟨List.mem_append_right _ (List.mem_append_right _ (List.mem_append_left _ (List.mem_of_getElem? (i := 38) rfl))), rfl⟩
theorem wm_2_39 : Cond.methodLink "LinearRows$Table" 64 y_T_storeOpposites ∈ wG := List.mem_filter.mpr ⟨List.mem_append_right _ (List.mem_append_right _ (List.mem_append_left _ (List.mem_of_getElem? (i := 39) rfl))), rfl⟩
theorem wm_2_40 : Cond.methodLink "LinearRows$Table" 68 y_T_chainThrough ∈ wG := List.mem_filter.mpr ⟨List.mem_append_right _ (List.mem_append_right _ (List.mem_append_left _ (List.mem_of_getElem? (i := 40) rfl))), rfl⟩
theorem wm_2_42 : Cond.instanceMethod y_T_chainThrough ∈ wG := List.mem_filter.mpr ⟨List.mem_append_right _ (List.mem_append_right _ (List.mem_append_left _ (List.mem_of_getElem? (i := 42) rfl))), rfl⟩
theorem wm_2_43 : Cond.code y_T_chainThrough b_T_chainThrough 10 none ∈ wG := List.mem_filter.mpr ⟨List.mem_append_right _ (List.mem_append_right _ (List.mem_append_left _ (List.mem_of_getElem? (i := 43) rfl))), rfl⟩
theorem wm_2_44 : Cond.methodLink "LinearRows$Table" 72 y_T_hasOppositesBelowZero ∈ wG := List.mem_filter.mpr ⟨List.mem_append_right _ (List.mem_append_right _ (List.mem_append_left _ (List.mem_of_getElem? (i := 44) rfl))), rfl⟩
theorem wm_2_46 : Cond.instanceMethod y_T_hasOppositesBelowZero ∈ wG := List.mem_filter.mpr ⟨List.mem_append_right _ (List.mem_append_right _ (List.mem_append_left _ (List.mem_of_getElem? (i := 46) rfl))), rfl⟩
theorem wm_2_47 : Cond.code y_T_hasOppositesBelowZero b_T_hasOppositesBelowZero 2 (some .boolean) ∈ wG := List.mem_filter.mpr ⟨List.mem_append_right _ (List.mem_append_right _ (List.mem_append_left _ (List.mem_of_getElem? (i := 47) rfl))), rfl⟩
theorem wm_2_48 : Cond.methodLink "LinearRows$Table" 76 y_T_cutToEven ∈ wG := List.mem_filter.mpr ⟨List.mem_append_right _ (List.mem_append_right _ (List.mem_append_left _ (List.mem_of_getElem? (i := 48) rfl))), rfl⟩
theorem wm_2_50 : Cond.instanceMethod y_T_cutToEven ∈ wG := List.mem_filter.mpr ⟨List.mem_append_right _ (List.mem_append_right _ (List.mem_append_left _ (List.mem_of_getElem? (i := 50) rfl))), rfl⟩
theorem wm_2_51 : Cond.code y_T_cutToEven b_T_cutToEven 2 none ∈ wG := List.mem_filter.mpr ⟨List.mem_append_right _ (List.mem_append_right _ (List.mem_append_left _ (List.mem_of_getElem? (i := 51) rfl))), rfl⟩
theorem wm_2_52 : Cond.constantLong "LinearRows$Table" 31 2 ∈ wG := List.mem_filter.mpr ⟨List.mem_append_right _ (List.mem_append_right _ (List.mem_append_left _ (List.mem_of_getElem? (i := 52) rfl))), rfl⟩
theorem wm_2_53 : Cond.methodLink "LinearRows$Table" 85 y_JM_floorDiv ∈ wG := List.mem_filter.mpr ⟨List.mem_append_right _ (List.mem_append_right _ (List.mem_append_left _ (List.mem_of_getElem? (i := 53) rfl))), rfl⟩
theorem wm_2_54 : Cond.methodLink "LinearRows$Table" 79 y_T_hasTwicesThatContradict ∈ wG := List.mem_filter.mpr ⟨List.mem_append_right _ (List.mem_append_right _ (List.mem_append_left _ (List.mem_of_getElem? (i := 54) rfl))), rfl⟩
theorem wm_2_56 : Cond.instanceMethod y_T_hasTwicesThatContradict ∈ wG := List.mem_filter.mpr ⟨List.mem_append_right _ (List.mem_append_right _ (List.mem_append_left _ (List.mem_of_getElem? (i := 56) rfl))), rfl⟩
theorem wm_2_57 : Cond.code y_T_hasTwicesThatContradict b_T_hasTwicesThatContradict 2 (some .boolean) ∈ wG := List.mem_filter.mpr ⟨List.mem_append_right _ (List.mem_append_right _ (List.mem_append_left _ (List.mem_of_getElem? (i := 57) rfl))), rfl⟩
theorem wm_2_59 : Cond.static y_X_plus ∈ wG := List.mem_filter.mpr ⟨List.mem_append_right _ (List.mem_append_right _ (List.mem_append_left _ (List.mem_of_getElem? (i := 59) rfl))), rfl⟩
theorem wm_2_60 : Cond.code y_X_plus b_X_plus 4 (some .long) ∈ wG := List.mem_filter.mpr ⟨List.mem_append_right _ (List.mem_append_right _ (List.mem_append_left _ (List.mem_of_getElem? (i := 60) rfl))), rfl⟩
theorem wm_2_61 : Cond.constantLong "LinearRows" 87 4611686018427387904 ∈ wG := List.mem_filter.mpr ⟨List.mem_append_right _ (List.mem_append_right _ (List.mem_append_left _ (List.mem_of_getElem? (i := 61) rfl))), rfl⟩
theorem wm_2_62 : Cond.methodLink "LinearRows$Table" 82 y_T_addHalves ∈ wG := List.mem_filter.mpr ⟨List.mem_append_right _ (List.mem_append_right _ (List.mem_append_left _ (List.mem_of_getElem? (i := 62) rfl))), rfl⟩
theorem wm_2_64 : Cond.instanceMethod y_T_addHalves ∈ wG := List.mem_filter.mpr ⟨List.mem_append_right _ (List.mem_append_right _ (List.mem_append_left _ (List.mem_of_getElem? (i := 64) rfl))), rfl⟩
theorem wm_2_65 : Cond.code y_T_addHalves b_T_addHalves 3 none ∈ wG := List.mem_filter.mpr ⟨List.mem_append_right _ (List.mem_append_right _ (List.mem_append_left _ (List.mem_of_getElem? (i := 65) rfl))), rfl⟩
theorem wm_2_66 : Cond.methodLink "LinearRows$Table" 37 y_T_half ∈ wG := List.mem_filter.mpr ⟨List.mem_append_right _ (List.mem_append_right _ (List.mem_append_left _ (List.mem_of_getElem? (i := 66) rfl))), rfl⟩
theorem wm_2_67 : Cond.instanceMethod y_T_half ∈ wG := List.mem_filter.mpr ⟨List.mem_append_right _ (List.mem_append_right _ (List.mem_append_left _ (List.mem_of_getElem? (i := 67) rfl))), rfl⟩
theorem wm_2_68 : Cond.selects "LinearRows$Table" y_T_half y_T_half ∈ wG := List.mem_filter.mpr ⟨List.mem_append_right _ (List.mem_append_right _ (List.mem_append_left _ (List.mem_of_getElem? (i := 68) rfl))), rfl⟩
theorem wm_2_69 : Cond.code y_T_half b_T_half 2 (some .long) ∈ wG := List.mem_filter.mpr ⟨List.mem_append_right _ (List.mem_append_right _ (List.mem_append_left _ (List.mem_of_getElem? (i := 69) rfl))), rfl⟩
theorem wm_2_70 : Cond.methodLink "LinearRows$Table" 91 y_T_lowerTo ∈ wG := List.mem_filter.mpr ⟨List.mem_append_right _ (List.mem_append_right _ (List.mem_append_left _ (List.mem_of_getElem? (i := 70) rfl))), rfl⟩
theorem wm_2_71 : Cond.methodLink "LinearRows" 79 y_X_takeMade ∈ wG := List.mem_filter.mpr ⟨List.mem_append_right _ (List.mem_append_right _ (List.mem_append_left _ (List.mem_of_getElem? (i := 71) rfl))), rfl⟩
theorem wm_2_73 : Cond.instanceMethod y_X_takeMade ∈ wG := List.mem_filter.mpr ⟨List.mem_append_right _ (List.mem_append_right _ (List.mem_append_left _ (List.mem_of_getElem? (i := 73) rfl))), rfl⟩
theorem wm_2_74 : Cond.code y_X_takeMade b_X_takeMade 2 (some .int) ∈ wG := List.mem_filter.mpr ⟨List.mem_append_right _ (List.mem_append_right _ (List.mem_append_left _ (List.mem_of_getElem? (i := 74) rfl))), rfl⟩
theorem wm_2_75 : Cond.methodLink "LinearRows" 208 y_T_isTooFar ∈ wG := List.mem_filter.mpr ⟨List.mem_append_right _ (List.mem_append_right _ (List.mem_append_left _ (List.mem_of_getElem? (i := 75) rfl))), rfl⟩
theorem wm_2_76 : Cond.instanceMethod y_T_isTooFar ∈ wG := List.mem_filter.mpr ⟨List.mem_append_right _ (List.mem_append_right _ (List.mem_append_left _ (List.mem_of_getElem? (i := 76) rfl))), rfl⟩
theorem wm_2_77 : Cond.selects "LinearRows$Table" y_T_isTooFar y_T_isTooFar ∈ wG := List.mem_filter.mpr ⟨List.mem_append_right _ (List.mem_append_right _ (List.mem_append_left _ (List.mem_of_getElem? (i := 77) rfl))), rfl⟩
theorem wm_2_78 : Cond.code y_T_isTooFar b_T_isTooFar 5 (some .boolean) ∈ wG := List.mem_filter.mpr ⟨List.mem_append_right _ (List.mem_append_right _ (List.mem_append_left _ (List.mem_of_getElem? (i := 78) rfl))), rfl⟩
theorem wm_2_79 : Cond.constantLong "LinearRows$Table" 60 1000000000000000 ∈ wG := List.mem_filter.mpr ⟨List.mem_append_right _ (List.mem_append_right _ (List.mem_append_left _ (List.mem_of_getElem? (i := 79) rfl))), rfl⟩
theorem wm_2_80 : Cond.constantLong "LinearRows$Table" 62 (-1000000000000000) ∈ wG := List.mem_filter.mpr ⟨List.mem_append_right _ (List.mem_append_right _ (List.mem_append_left _ (List.mem_of_getElem? (i := 80) rfl))), rfl⟩
theorem wm_2_81 : Cond.classLink "LinearRows" 211 "java/lang/ArithmeticException" ∈ wG := List.mem_filter.mpr ⟨List.mem_append_right _ (List.mem_append_right _ (List.mem_append_left _ (List.mem_of_getElem? (i := 81) rfl))), rfl⟩
theorem wm_2_82 : Cond.instantiable "java/lang/ArithmeticException" 6 ∈ wG := List.mem_filter.mpr ⟨List.mem_append_right _ (List.mem_append_right _ (List.mem_append_left _ (List.mem_of_getElem? (i := 82) rfl))), rfl⟩
theorem wm_2_84 : Cond.selects "java/lang/ArithmeticException" ⟨"java/lang/Throwable", "fillInStackTrace", "(I)Ljava/lang/Throwable;"⟩ ⟨"java/lang/Throwable", "fillInStackTrace", "(I)Ljava/lang/Throwable;"⟩ ∈ wG := List.mem_filter.mpr ⟨List.mem_append_right _ (List.mem_append_right _ (List.mem_append_left _ (List.mem_of_getElem? (i := 84) rfl))), rfl⟩
theorem wm_2_85 : Cond.lays "java/lang/ArithmeticException" "java/lang/Throwable" "cause" "Ljava/lang/Throwable;" ∈ wG := List.mem_filter.mpr ⟨List.mem_append_right _ (List.mem_append_right _ (List.mem_append_left _ (List.mem_of_getElem? (i := 85) rfl))), rfl⟩
theorem wm_2_86 : Cond.lays "java/lang/ArithmeticException" "java/lang/Throwable" "stackTrace" "[Ljava/lang/StackTraceElement;" ∈ wG := List.mem_filter.mpr ⟨List.mem_append_right _ (List.mem_append_right _ (List.mem_append_left _ (List.mem_of_getElem? (i := 86) rfl))), rfl⟩
theorem wm_2_87 : Cond.lays "java/lang/ArithmeticException" "java/lang/Throwable" "suppressedExceptions" "Ljava/util/List;" ∈ wG := List.mem_filter.mpr ⟨List.mem_append_right _ (List.mem_append_right _ (List.mem_append_left _ (List.mem_of_getElem? (i := 87) rfl))), rfl⟩
theorem wm_2_88 : Cond.lays "java/lang/ArithmeticException" "java/lang/Throwable" "detailMessage" "Ljava/lang/String;" ∈ wG := List.mem_filter.mpr ⟨List.mem_append_right _ (List.mem_append_right _ (List.mem_append_left _ (List.mem_of_getElem? (i := 88) rfl))), rfl⟩
theorem wm_2_89 : Cond.lays "java/lang/ArithmeticException" "java/lang/Throwable" "backtrace" "Ljava/lang/Object;" ∈ wG := List.mem_filter.mpr ⟨List.mem_append_right _ (List.mem_append_right _ (List.mem_append_left _ (List.mem_of_getElem? (i := 89) rfl))), rfl⟩
theorem wm_2_91 : Cond.methodLink "LinearRows" 215 ⟨"java/lang/ArithmeticException", "<init>", "(Ljava/lang/String;)V"⟩ ∈ wG := List.mem_filter.mpr ⟨List.mem_append_right _ (List.mem_append_right _ (List.mem_append_left _ (List.mem_of_getElem? (i := 91) rfl))), rfl⟩
theorem wm_2_92 : Cond.instanceMethod ⟨"java/lang/ArithmeticException", "<init>", "(Ljava/lang/String;)V"⟩ ∈ wG := List.mem_filter.mpr ⟨List.mem_append_right _ (List.mem_append_right _ (List.mem_append_left _ (List.mem_of_getElem? (i := 92) rfl))), rfl⟩
theorem wm_2_94 : Cond.methodLink "java/lang/ArithmeticException" 7 ⟨"java/lang/RuntimeException", "<init>", "(Ljava/lang/String;)V"⟩ ∈ wG := List.mem_filter.mpr ⟨List.mem_append_right _ (List.mem_append_right _ (List.mem_append_left _ (List.mem_of_getElem? (i := 94) rfl))), rfl⟩
theorem wm_2_95 : Cond.lays "java/lang/ArithmeticException" "java/lang/Throwable" "depth" "I" ∈ wG := List.mem_filter.mpr ⟨List.mem_append_right _ (List.mem_append_right _ (List.mem_append_left _ (List.mem_of_getElem? (i := 95) rfl))), rfl⟩
theorem wm_2_96 : Cond.superclass "java/lang/ArithmeticException" "java/lang/RuntimeException" ∈ wG := List.mem_filter.mpr ⟨List.mem_append_right _ (List.mem_append_right _ (List.mem_append_left _ (List.mem_of_getElem? (i := 96) rfl))), rfl⟩
theorem wm_2_97 : Cond.methodLink "LinearRowsLaw" 116 y_L_bound ∈ wG := List.mem_filter.mpr ⟨List.mem_append_right _ (List.mem_append_right _ (List.mem_append_left _ (List.mem_of_getElem? (i := 97) rfl))), rfl⟩
theorem wm_2_98 : Cond.static y_L_bound ∈ wG := List.mem_filter.mpr ⟨List.mem_append_right _ (List.mem_append_right _ (List.mem_append_left _ (List.mem_of_getElem? (i := 98) rfl))), rfl⟩
theorem wm_2_99 : Cond.codeWith y_L_bound b_L_bound 6 (some .int) h_L_bound ∈ wG := List.mem_filter.mpr ⟨List.mem_append_right _ (List.mem_append_right _ (List.mem_append_left _ (List.mem_of_getElem? (i := 99) rfl))), rfl⟩
theorem wm_2_100 : Cond.methodLink "LinearRowsLaw" 23 y_X_bound ∈ wG := List.mem_filter.mpr ⟨List.mem_append_right _ (List.mem_append_right _ (List.mem_append_left _ (List.mem_of_getElem? (i := 100) rfl))), rfl⟩
theorem wm_2_101 : Cond.instanceMethod y_X_bound ∈ wG := List.mem_filter.mpr ⟨List.mem_append_right _ (List.mem_append_right _ (List.mem_append_left _ (List.mem_of_getElem? (i := 101) rfl))), rfl⟩
theorem wm_2_102 : Cond.selects "LinearRows" y_X_bound y_X_bound ∈ wG := List.mem_filter.mpr ⟨List.mem_append_right _ (List.mem_append_right _ (List.mem_append_left _ (List.mem_of_getElem? (i := 102) rfl))), rfl⟩
theorem wm_2_103 : Cond.code y_X_bound b_X_bound 4 (some .long) ∈ wG := List.mem_filter.mpr ⟨List.mem_append_right _ (List.mem_append_right _ (List.mem_append_left _ (List.mem_of_getElem? (i := 103) rfl))), rfl⟩
theorem wm_2_104 : Cond.methodLink "LinearRows" 83 y_S_greatest ∈ wG := List.mem_filter.mpr ⟨List.mem_append_right _ (List.mem_append_right _ (List.mem_append_left _ (List.mem_of_getElem? (i := 104) rfl))), rfl⟩
theorem wm_2_105 : Cond.instanceMethod y_S_greatest ∈ wG := List.mem_filter.mpr ⟨List.mem_append_right _ (List.mem_append_right _ (List.mem_append_left _ (List.mem_of_getElem? (i := 105) rfl))), rfl⟩
theorem wm_2_106 : Cond.selects "LinearRows$Shape" y_S_greatest y_S_greatest ∈ wG := List.mem_filter.mpr ⟨List.mem_append_right _ (List.mem_append_right _ (List.mem_append_left _ (List.mem_of_getElem? (i := 106) rfl))), rfl⟩
theorem wm_2_107 : Cond.code y_S_greatest b_S_greatest 3 (some .long) ∈ wG := List.mem_filter.mpr ⟨List.mem_append_right _ (List.mem_append_right _ (List.mem_append_left _ (List.mem_of_getElem? (i := 107) rfl))), rfl⟩
theorem wm_2_108 : Cond.constantLong "LinearRows$Shape" 45 (-4611686018427387904) ∈ wG := List.mem_filter.mpr ⟨List.mem_append_right _ (List.mem_append_right _ (List.mem_append_left _ (List.mem_of_getElem? (i := 108) rfl))), rfl⟩
theorem wm_2_109 : Cond.methodLink "LinearRows$Shape" 47 y_T_ofTerms ∈ wG := List.mem_filter.mpr ⟨List.mem_append_right _ (List.mem_append_right _ (List.mem_append_left _ (List.mem_of_getElem? (i := 109) rfl))), rfl⟩
theorem wm_2_110 : Cond.instanceMethod y_T_ofTerms ∈ wG := List.mem_filter.mpr ⟨List.mem_append_right _ (List.mem_append_right _ (List.mem_append_left _ (List.mem_of_getElem? (i := 110) rfl))), rfl⟩
theorem wm_2_111 : Cond.selects "LinearRows$Table" y_T_ofTerms y_T_ofTerms ∈ wG := List.mem_filter.mpr ⟨List.mem_append_right _ (List.mem_append_right _ (List.mem_append_left _ (List.mem_of_getElem? (i := 111) rfl))), rfl⟩
theorem wm_2_112 : Cond.code y_T_ofTerms b_T_ofTerms 3 (some .long) ∈ wG := List.mem_filter.mpr ⟨List.mem_append_right _ (List.mem_append_right _ (List.mem_append_left _ (List.mem_of_getElem? (i := 112) rfl))), rfl⟩
theorem wm_2_114 : Cond.methodLink "LinearRowsLaw" 120 y_L_kept ∈ wG := List.mem_filter.mpr ⟨List.mem_append_right _ (List.mem_append_right _ (List.mem_append_left _ (List.mem_of_getElem? (i := 114) rfl))), rfl⟩
theorem wm_2_115 : Cond.static y_L_kept ∈ wG := List.mem_filter.mpr ⟨List.mem_append_right _ (List.mem_append_right _ (List.mem_append_left _ (List.mem_of_getElem? (i := 115) rfl))), rfl⟩
theorem wm_2_116 : Cond.codeWith y_L_kept b_L_kept 6 (some .int) h_L_kept ∈ wG := List.mem_filter.mpr ⟨List.mem_append_right _ (List.mem_append_right _ (List.mem_append_left _ (List.mem_of_getElem? (i := 116) rfl))), rfl⟩
theorem wm_2_117 : Cond.methodLink "LinearRowsLaw" 27 y_X_kept ∈ wG := List.mem_filter.mpr ⟨List.mem_append_right _ (List.mem_append_right _ (List.mem_append_left _ (List.mem_of_getElem? (i := 117) rfl))), rfl⟩
theorem wm_2_118 : Cond.instanceMethod y_X_kept ∈ wG := List.mem_filter.mpr ⟨List.mem_append_right _ (List.mem_append_right _ (List.mem_append_left _ (List.mem_of_getElem? (i := 118) rfl))), rfl⟩
theorem wm_2_119 : Cond.selects "LinearRows" y_X_kept y_X_kept ∈ wG := List.mem_filter.mpr ⟨List.mem_append_right _ (List.mem_append_right _ (List.mem_append_left _ (List.mem_of_getElem? (i := 119) rfl))), rfl⟩
theorem wm_2_120 : Cond.code y_X_kept b_X_kept 4 (some .long) ∈ wG := List.mem_filter.mpr ⟨List.mem_append_right _ (List.mem_append_right _ (List.mem_append_left _ (List.mem_of_getElem? (i := 120) rfl))), rfl⟩
theorem wm_2_121 : Cond.methodLink "LinearRows" 92 y_T_ofTerms ∈ wG := List.mem_filter.mpr ⟨List.mem_append_right _ (List.mem_append_right _ (List.mem_append_left _ (List.mem_of_getElem? (i := 121) rfl))), rfl⟩
theorem wm_2_122 : Cond.methodLink "LinearRowsLaw" 123 y_L_meet ∈ wG := List.mem_filter.mpr ⟨List.mem_append_right _ (List.mem_append_right _ (List.mem_append_left _ (List.mem_of_getElem? (i := 122) rfl))), rfl⟩
theorem wm_2_123 : Cond.static y_L_meet ∈ wG := List.mem_filter.mpr ⟨List.mem_append_right _ (List.mem_append_right _ (List.mem_append_left _ (List.mem_of_getElem? (i := 123) rfl))), rfl⟩
theorem wm_2_124 : Cond.codeWith y_L_meet b_L_meet 6 (some .int) h_L_meet ∈ wG := List.mem_filter.mpr ⟨List.mem_append_right _ (List.mem_append_right _ (List.mem_append_left _ (List.mem_of_getElem? (i := 124) rfl))), rfl⟩
theorem wm_2_125 : Cond.methodLink "LinearRowsLaw" 30 y_X_meet ∈ wG := List.mem_filter.mpr ⟨List.mem_append_right _ (List.mem_append_right _ (List.mem_append_left _ (List.mem_of_getElem? (i := 125) rfl))), rfl⟩
theorem wm_2_126 : Cond.instanceMethod y_X_meet ∈ wG := List.mem_filter.mpr ⟨List.mem_append_right _ (List.mem_append_right _ (List.mem_append_left _ (List.mem_of_getElem? (i := 126) rfl))), rfl⟩
theorem wm_2_127 : Cond.selects "LinearRows" y_X_meet y_X_meet ∈ wG := List.mem_filter.mpr ⟨List.mem_append_right _ (List.mem_append_right _ (List.mem_append_left _ (List.mem_of_getElem? (i := 127) rfl))), rfl⟩
theorem wm_2_128 : Cond.code y_X_meet b_X_meet 4 (some .int) ∈ wG := List.mem_filter.mpr ⟨List.mem_append_right _ (List.mem_append_right _ (List.mem_append_left _ (List.mem_of_getElem? (i := 128) rfl))), rfl⟩
theorem wm_2_129 : Cond.methodLink "LinearRows" 95 y_X_checkShapes ∈ wG := List.mem_filter.mpr ⟨List.mem_append_right _ (List.mem_append_right _ (List.mem_append_left _ (List.mem_of_getElem? (i := 129) rfl))), rfl⟩
theorem wm_2_130 : Cond.static y_X_checkShapes ∈ wG := List.mem_filter.mpr ⟨List.mem_append_right _ (List.mem_append_right _ (List.mem_append_left _ (List.mem_of_getElem? (i := 130) rfl))), rfl⟩
theorem wm_2_131 : Cond.code y_X_checkShapes b_X_checkShapes 3 none ∈ wG := List.mem_filter.mpr ⟨List.mem_append_right _ (List.mem_append_right _ (List.mem_append_left _ (List.mem_of_getElem? (i := 131) rfl))), rfl⟩
theorem wm_2_132 : Cond.methodLink "LinearRows" 99 y_S_becomeMeeting ∈ wG := List.mem_filter.mpr ⟨List.mem_append_right _ (List.mem_append_right _ (List.mem_append_left _ (List.mem_of_getElem? (i := 132) rfl))), rfl⟩
theorem wm_2_133 : Cond.instanceMethod y_S_becomeMeeting ∈ wG := List.mem_filter.mpr ⟨List.mem_append_right _ (List.mem_append_right _ (List.mem_append_left _ (List.mem_of_getElem? (i := 133) rfl))), rfl⟩
theorem wm_2_134 : Cond.selects "LinearRows$Shape" y_S_becomeMeeting y_S_becomeMeeting ∈ wG := List.mem_filter.mpr ⟨List.mem_append_right _ (List.mem_append_right _ (List.mem_append_left _ (List.mem_of_getElem? (i := 134) rfl))), rfl⟩
theorem wm_2_135 : Cond.code y_S_becomeMeeting b_S_becomeMeeting 5 none ∈ wG := List.mem_filter.mpr ⟨List.mem_append_right _ (List.mem_append_right _ (List.mem_append_left _ (List.mem_of_getElem? (i := 135) rfl))), rfl⟩
theorem wm_2_136 : Cond.methodLink "LinearRows$Shape" 73 y_T_at ∈ wG := List.mem_filter.mpr ⟨List.mem_append_right _ (List.mem_append_right _ (List.mem_append_left _ (List.mem_of_getElem? (i := 136) rfl))), rfl⟩
theorem wm_2_137 : Cond.methodLink "LinearRows$Shape" 76 y_JM_min_JJJ ∈ wG := List.mem_filter.mpr ⟨List.mem_append_right _ (List.mem_append_right _ (List.mem_append_left _ (List.mem_of_getElem? (i := 137) rfl))), rfl⟩
theorem wm_2_138 : Cond.methodLink "LinearRows$Shape" 79 y_T_store ∈ wG := List.mem_filter.mpr ⟨List.mem_append_right _ (List.mem_append_right _ (List.mem_append_left _ (List.mem_of_getElem? (i := 138) rfl))), rfl⟩
theorem wm_2_139 : Cond.methodLink "LinearRows$Shape" 82 y_S_keepBounds ∈ wG := List.mem_filter.mpr ⟨List.mem_append_right _ (List.mem_append_right _ (List.mem_append_left _ (List.mem_of_getElem? (i := 139) rfl))), rfl⟩
theorem wm_2_141 : Cond.instanceMethod y_S_keepBounds ∈ wG := List.mem_filter.mpr ⟨List.mem_append_right _ (List.mem_append_right _ (List.mem_append_left _ (List.mem_of_getElem? (i := 141) rfl))), rfl⟩
theorem wm_2_142 : Cond.code y_S_keepBounds b_S_keepBounds 1 none ∈ wG := List.mem_filter.mpr ⟨List.mem_append_right _ (List.mem_append_right _ (List.mem_append_left _ (List.mem_of_getElem? (i := 142) rfl))), rfl⟩
theorem wm_2_143 : Cond.constantLong "LinearRows$Shape" 92 4611686018427387904 ∈ wG := List.mem_filter.mpr ⟨List.mem_append_right _ (List.mem_append_right _ (List.mem_append_left _ (List.mem_of_getElem? (i := 143) rfl))), rfl⟩
theorem wm_2_144 : Cond.methodLink "LinearRowsLaw" 126 y_L_join ∈ wG := List.mem_filter.mpr ⟨List.mem_append_right _ (List.mem_append_right _ (List.mem_append_left _ (List.mem_of_getElem? (i := 144) rfl))), rfl⟩
theorem wm_2_145 : Cond.static y_L_join ∈ wG := List.mem_filter.mpr ⟨List.mem_append_right _ (List.mem_append_right _ (List.mem_append_left _ (List.mem_of_getElem? (i := 145) rfl))), rfl⟩
theorem wm_2_146 : Cond.codeWith y_L_join b_L_join 6 (some .int) h_L_join ∈ wG := List.mem_filter.mpr ⟨List.mem_append_right _ (List.mem_append_right _ (List.mem_append_left _ (List.mem_of_getElem? (i := 146) rfl))), rfl⟩
theorem wm_2_147 : Cond.methodLink "LinearRowsLaw" 34 y_X_join ∈ wG := List.mem_filter.mpr ⟨List.mem_append_right _ (List.mem_append_right _ (List.mem_append_left _ (List.mem_of_getElem? (i := 147) rfl))), rfl⟩
theorem wm_2_148 : Cond.instanceMethod y_X_join ∈ wG := List.mem_filter.mpr ⟨List.mem_append_right _ (List.mem_append_right _ (List.mem_append_left _ (List.mem_of_getElem? (i := 148) rfl))), rfl⟩
theorem wm_2_149 : Cond.selects "LinearRows" y_X_join y_X_join ∈ wG := List.mem_filter.mpr ⟨List.mem_append_right _ (List.mem_append_right _ (List.mem_append_left _ (List.mem_of_getElem? (i := 149) rfl))), rfl⟩
theorem wm_2_150 : Cond.code y_X_join b_X_join 4 (some .int) ∈ wG := List.mem_filter.mpr ⟨List.mem_append_right _ (List.mem_append_right _ (List.mem_append_left _ (List.mem_of_getElem? (i := 150) rfl))), rfl⟩
theorem wm_2_151 : Cond.methodLink "LinearRows" 103 y_S_becomeJoin ∈ wG := List.mem_filter.mpr ⟨List.mem_append_right _ (List.mem_append_right _ (List.mem_append_left _ (List.mem_of_getElem? (i := 151) rfl))), rfl⟩
theorem wm_2_152 : Cond.instanceMethod y_S_becomeJoin ∈ wG := List.mem_filter.mpr ⟨List.mem_append_right _ (List.mem_append_right _ (List.mem_append_left _ (List.mem_of_getElem? (i := 152) rfl))), rfl⟩
theorem wm_2_153 : Cond.selects "LinearRows$Shape" y_S_becomeJoin y_S_becomeJoin ∈ wG := List.mem_filter.mpr ⟨List.mem_append_right _ (List.mem_append_right _ (List.mem_append_left _ (List.mem_of_getElem? (i := 153) rfl))), rfl⟩
theorem wm_2_154 : Cond.code y_S_becomeJoin b_S_becomeJoin 5 none ∈ wG := List.mem_filter.mpr ⟨List.mem_append_right _ (List.mem_append_right _ (List.mem_append_left _ (List.mem_of_getElem? (i := 154) rfl))), rfl⟩
theorem wm_2_155 : Cond.methodLink "LinearRows$Shape" 85 y_S_becomeLike ∈ wG := List.mem_filter.mpr ⟨List.mem_append_right _ (List.mem_append_right _ (List.mem_append_left _ (List.mem_of_getElem? (i := 155) rfl))), rfl⟩
theorem wm_2_156 : Cond.methodLink "LinearRows$Shape" 89 y_JM_max_JJJ ∈ wG := List.mem_filter.mpr ⟨List.mem_append_right _ (List.mem_append_right _ (List.mem_append_left _ (List.mem_of_getElem? (i := 156) rfl))), rfl⟩
theorem wm_2_157 : Cond.static y_JM_max_JJJ ∈ wG := List.mem_filter.mpr ⟨List.mem_append_right _ (List.mem_append_right _ (List.mem_append_left _ (List.mem_of_getElem? (i := 157) rfl))), rfl⟩
theorem wm_2_158 : Cond.code y_JM_max_JJJ b_JM_max_JJJ 4 (some .long) ∈ wG := List.mem_filter.mpr ⟨List.mem_append_right _ (List.mem_append_right _ (List.mem_append_left _ (List.mem_of_getElem? (i := 158) rfl))), rfl⟩
theorem wm_2_159 : Cond.methodLink "LinearRowsLaw" 129 y_L_widen ∈ wG := List.mem_filter.mpr ⟨List.mem_append_right _ (List.mem_append_right _ (List.mem_append_left _ (List.mem_of_getElem? (i := 159) rfl))), rfl⟩
theorem wm_2_160 : Cond.static y_L_widen ∈ wG := List.mem_filter.mpr ⟨List.mem_append_right _ (List.mem_append_right _ (List.mem_append_left _ (List.mem_of_getElem? (i := 160) rfl))), rfl⟩
theorem wm_2_161 : Cond.codeWith y_L_widen b_L_widen 6 (some .int) h_L_widen ∈ wG := List.mem_filter.mpr ⟨List.mem_append_right _ (List.mem_append_right _ (List.mem_append_left _ (List.mem_of_getElem? (i := 161) rfl))), rfl⟩
theorem wm_2_162 : Cond.methodLink "LinearRowsLaw" 37 y_X_widen ∈ wG := List.mem_filter.mpr ⟨List.mem_append_right _ (List.mem_append_right _ (List.mem_append_left _ (List.mem_of_getElem? (i := 162) rfl))), rfl⟩
theorem wm_2_163 : Cond.instanceMethod y_X_widen ∈ wG := List.mem_filter.mpr ⟨List.mem_append_right _ (List.mem_append_right _ (List.mem_append_left _ (List.mem_of_getElem? (i := 163) rfl))), rfl⟩
theorem wm_2_164 : Cond.selects "LinearRows" y_X_widen y_X_widen ∈ wG := List.mem_filter.mpr ⟨List.mem_append_right _ (List.mem_append_right _ (List.mem_append_left _ (List.mem_of_getElem? (i := 164) rfl))), rfl⟩
theorem wm_2_165 : Cond.code y_X_widen b_X_widen 4 (some .int) ∈ wG := List.mem_filter.mpr ⟨List.mem_append_right _ (List.mem_append_right _ (List.mem_append_left _ (List.mem_of_getElem? (i := 165) rfl))), rfl⟩
theorem wm_2_166 : Cond.methodLink "LinearRows" 106 y_S_becomeWidened ∈ wG := List.mem_filter.mpr ⟨List.mem_append_right _ (List.mem_append_right _ (List.mem_append_left _ (List.mem_of_getElem? (i := 166) rfl))), rfl⟩
theorem wm_2_167 : Cond.instanceMethod y_S_becomeWidened ∈ wG := List.mem_filter.mpr ⟨List.mem_append_right _ (List.mem_append_right _ (List.mem_append_left _ (List.mem_of_getElem? (i := 167) rfl))), rfl⟩
theorem wm_2_168 : Cond.selects "LinearRows$Shape" y_S_becomeWidened y_S_becomeWidened ∈ wG := List.mem_filter.mpr ⟨List.mem_append_right _ (List.mem_append_right _ (List.mem_append_left _ (List.mem_of_getElem? (i := 168) rfl))), rfl⟩
theorem wm_2_169 : Cond.code y_S_becomeWidened b_S_becomeWidened 7 none ∈ wG := List.mem_filter.mpr ⟨List.mem_append_right _ (List.mem_append_right _ (List.mem_append_left _ (List.mem_of_getElem? (i := 169) rfl))), rfl⟩
theorem wm_2_170 : Cond.methodLink "LinearRowsLaw" 132 y_L_narrow ∈ wG := List.mem_filter.mpr ⟨List.mem_append_right _ (List.mem_append_right _ (List.mem_append_left _ (List.mem_of_getElem? (i := 170) rfl))), rfl⟩
theorem wm_2_171 : Cond.static y_L_narrow ∈ wG := List.mem_filter.mpr ⟨List.mem_append_right _ (List.mem_append_right _ (List.mem_append_left _ (List.mem_of_getElem? (i := 171) rfl))), rfl⟩
theorem wm_2_172 : Cond.codeWith y_L_narrow b_L_narrow 6 (some .int) h_L_narrow ∈ wG := List.mem_filter.mpr ⟨List.mem_append_right _ (List.mem_append_right _ (List.mem_append_left _ (List.mem_of_getElem? (i := 172) rfl))), rfl⟩
theorem wm_2_173 : Cond.methodLink "LinearRowsLaw" 40 y_X_narrow ∈ wG := List.mem_filter.mpr ⟨List.mem_append_right _ (List.mem_append_right _ (List.mem_append_left _ (List.mem_of_getElem? (i := 173) rfl))), rfl⟩
theorem wm_2_174 : Cond.instanceMethod y_X_narrow ∈ wG := List.mem_filter.mpr ⟨List.mem_append_right _ (List.mem_append_right _ (List.mem_append_left _ (List.mem_of_getElem? (i := 174) rfl))), rfl⟩
theorem wm_2_175 : Cond.selects "LinearRows" y_X_narrow y_X_narrow ∈ wG := List.mem_filter.mpr ⟨List.mem_append_right _ (List.mem_append_right _ (List.mem_append_left _ (List.mem_of_getElem? (i := 175) rfl))), rfl⟩
theorem wm_2_176 : Cond.code y_X_narrow b_X_narrow 4 (some .int) ∈ wG := List.mem_filter.mpr ⟨List.mem_append_right _ (List.mem_append_right _ (List.mem_append_left _ (List.mem_of_getElem? (i := 176) rfl))), rfl⟩
theorem wm_2_177 : Cond.methodLink "LinearRows" 109 y_S_becomeNarrowed ∈ wG := List.mem_filter.mpr ⟨List.mem_append_right _ (List.mem_append_right _ (List.mem_append_left _ (List.mem_of_getElem? (i := 177) rfl))), rfl⟩
theorem wm_2_178 : Cond.instanceMethod y_S_becomeNarrowed ∈ wG := List.mem_filter.mpr ⟨List.mem_append_right _ (List.mem_append_right _ (List.mem_append_left _ (List.mem_of_getElem? (i := 178) rfl))), rfl⟩
theorem wm_2_179 : Cond.selects "LinearRows$Shape" y_S_becomeNarrowed y_S_becomeNarrowed ∈ wG := List.mem_filter.mpr ⟨List.mem_append_right _ (List.mem_append_right _ (List.mem_append_left _ (List.mem_of_getElem? (i := 179) rfl))), rfl⟩
theorem wm_2_180 : Cond.code y_S_becomeNarrowed b_S_becomeNarrowed 6 none ∈ wG := List.mem_filter.mpr ⟨List.mem_append_right _ (List.mem_append_right _ (List.mem_append_left _ (List.mem_of_getElem? (i := 180) rfl))), rfl⟩
theorem wm_2_181 : Cond.methodLink "LinearRowsLaw" 135 y_L_copy ∈ wG := List.mem_filter.mpr ⟨List.mem_append_right _ (List.mem_append_right _ (List.mem_append_left _ (List.mem_of_getElem? (i := 181) rfl))), rfl⟩
theorem wm_2_182 : Cond.static y_L_copy ∈ wG := List.mem_filter.mpr ⟨List.mem_append_right _ (List.mem_append_right _ (List.mem_append_left _ (List.mem_of_getElem? (i := 182) rfl))), rfl⟩
theorem wm_2_183 : Cond.codeWith y_L_copy b_L_copy 4 (some .int) h_L_copy ∈ wG := List.mem_filter.mpr ⟨List.mem_append_right _ (List.mem_append_right _ (List.mem_append_left _ (List.mem_of_getElem? (i := 183) rfl))), rfl⟩
theorem wm_2_184 : Cond.methodLink "LinearRowsLaw" 43 y_X_copy ∈ wG := List.mem_filter.mpr ⟨List.mem_append_right _ (List.mem_append_right _ (List.mem_append_left _ (List.mem_of_getElem? (i := 184) rfl))), rfl⟩
theorem wm_2_185 : Cond.instanceMethod y_X_copy ∈ wG := List.mem_filter.mpr ⟨List.mem_append_right _ (List.mem_append_right _ (List.mem_append_left _ (List.mem_of_getElem? (i := 185) rfl))), rfl⟩
theorem wm_2_186 : Cond.selects "LinearRows" y_X_copy y_X_copy ∈ wG := List.mem_filter.mpr ⟨List.mem_append_right _ (List.mem_append_right _ (List.mem_append_left _ (List.mem_of_getElem? (i := 186) rfl))), rfl⟩
theorem wm_2_187 : Cond.code y_X_copy b_X_copy 3 none ∈ wG := List.mem_filter.mpr ⟨List.mem_append_right _ (List.mem_append_right _ (List.mem_append_left _ (List.mem_of_getElem? (i := 187) rfl))), rfl⟩
theorem wm_2_188 : Cond.methodLink "LinearRowsLaw" 139 y_L_set ∈ wG := List.mem_filter.mpr ⟨List.mem_append_right _ (List.mem_append_right _ (List.mem_append_left _ (List.mem_of_getElem? (i := 188) rfl))), rfl⟩
theorem wm_2_189 : Cond.static y_L_set ∈ wG := List.mem_filter.mpr ⟨List.mem_append_right _ (List.mem_append_right _ (List.mem_append_left _ (List.mem_of_getElem? (i := 189) rfl))), rfl⟩
theorem wm_2_190 : Cond.codeWith y_L_set b_L_set 8 (some .int) h_L_set ∈ wG := List.mem_filter.mpr ⟨List.mem_append_right _ (List.mem_append_right _ (List.mem_append_left _ (List.mem_of_getElem? (i := 190) rfl))), rfl⟩
theorem wm_2_191 : Cond.methodLink "LinearRowsLaw" 47 y_X_set ∈ wG := List.mem_filter.mpr ⟨List.mem_append_right _ (List.mem_append_right _ (List.mem_append_left _ (List.mem_of_getElem? (i := 191) rfl))), rfl⟩
theorem wm_2_192 : Cond.instanceMethod y_X_set ∈ wG := List.mem_filter.mpr ⟨List.mem_append_right _ (List.mem_append_right _ (List.mem_append_left _ (List.mem_of_getElem? (i := 192) rfl))), rfl⟩
theorem wm_2_193 : Cond.selects "LinearRows" y_X_set y_X_set ∈ wG := List.mem_filter.mpr ⟨List.mem_append_right _ (List.mem_append_right _ (List.mem_append_left _ (List.mem_of_getElem? (i := 193) rfl))), rfl⟩
theorem wm_2_194 : Cond.code y_X_set b_X_set 6 (some .int) ∈ wG := List.mem_filter.mpr ⟨List.mem_append_right _ (List.mem_append_right _ (List.mem_append_left _ (List.mem_of_getElem? (i := 194) rfl))), rfl⟩
theorem wm_2_195 : Cond.methodLink "LinearRows" 112 y_X_checkName ∈ wG := List.mem_filter.mpr ⟨List.mem_append_right _ (List.mem_append_right _ (List.mem_append_left _ (List.mem_of_getElem? (i := 195) rfl))), rfl⟩
theorem wm_2_197 : Cond.instanceMethod y_X_checkName ∈ wG := List.mem_filter.mpr ⟨List.mem_append_right _ (List.mem_append_right _ (List.mem_append_left _ (List.mem_of_getElem? (i := 197) rfl))), rfl⟩
theorem wm_2_198 : Cond.code y_X_checkName b_X_checkName 2 none ∈ wG := List.mem_filter.mpr ⟨List.mem_append_right _ (List.mem_append_right _ (List.mem_append_left _ (List.mem_of_getElem? (i := 198) rfl))), rfl⟩
theorem wm_2_200 : Cond.methodLink "LinearRows" 115 y_S_becomeAssigned ∈ wG := List.mem_filter.mpr ⟨List.mem_append_right _ (List.mem_append_right _ (List.mem_append_left _ (List.mem_of_getElem? (i := 200) rfl))), rfl⟩
theorem wm_2_201 : Cond.instanceMethod y_S_becomeAssigned ∈ wG := List.mem_filter.mpr ⟨List.mem_append_right _ (List.mem_append_right _ (List.mem_append_left _ (List.mem_of_getElem? (i := 201) rfl))), rfl⟩
theorem wm_2_202 : Cond.selects "LinearRows$Shape" y_S_becomeAssigned y_S_becomeAssigned ∈ wG := List.mem_filter.mpr ⟨List.mem_append_right _ (List.mem_append_right _ (List.mem_append_left _ (List.mem_of_getElem? (i := 202) rfl))), rfl⟩
theorem wm_2_203 : Cond.code y_S_becomeAssigned b_S_becomeAssigned 10 none ∈ wG := List.mem_filter.mpr ⟨List.mem_append_right _ (List.mem_append_right _ (List.mem_append_left _ (List.mem_of_getElem? (i := 203) rfl))), rfl⟩
theorem wm_2_204 : Cond.methodLink "LinearRows$Shape" 94 y_S_sourceOf ∈ wG := List.mem_filter.mpr ⟨List.mem_append_right _ (List.mem_append_right _ (List.mem_append_left _ (List.mem_of_getElem? (i := 204) rfl))), rfl⟩
theorem wm_2_205 : Cond.static y_S_sourceOf ∈ wG := List.mem_filter.mpr ⟨List.mem_append_right _ (List.mem_append_right _ (List.mem_append_left _ (List.mem_of_getElem? (i := 205) rfl))), rfl⟩
theorem wm_2_206 : Cond.code y_S_sourceOf b_S_sourceOf 4 (some .int) ∈ wG := List.mem_filter.mpr ⟨List.mem_append_right _ (List.mem_append_right _ (List.mem_append_left _ (List.mem_of_getElem? (i := 206) rfl))), rfl⟩
theorem wm_2_208 : Cond.static y_X_termAt ∈ wG := List.mem_filter.mpr ⟨List.mem_append_right _ (List.mem_append_right _ (List.mem_append_left _ (List.mem_of_getElem? (i := 208) rfl))), rfl⟩
theorem wm_2_209 : Cond.code y_X_termAt b_X_termAt 2 (some .int) ∈ wG := List.mem_filter.mpr ⟨List.mem_append_right _ (List.mem_append_right _ (List.mem_append_left _ (List.mem_of_getElem? (i := 209) rfl))), rfl⟩
theorem wm_2_210 : Cond.methodLink "LinearRows$Shape" 98 y_S_greatest ∈ wG := List.mem_filter.mpr ⟨List.mem_append_right _ (List.mem_append_right _ (List.mem_append_left _ (List.mem_of_getElem? (i := 210) rfl))), rfl⟩
theorem wm_2_211 : Cond.methodLink "LinearRows$Shape" 101 y_S_addedTo ∈ wG := List.mem_filter.mpr ⟨List.mem_append_right _ (List.mem_append_right _ (List.mem_append_left _ (List.mem_of_getElem? (i := 211) rfl))), rfl⟩
theorem wm_2_212 : Cond.static y_S_addedTo ∈ wG := List.mem_filter.mpr ⟨List.mem_append_right _ (List.mem_append_right _ (List.mem_append_left _ (List.mem_of_getElem? (i := 212) rfl))), rfl⟩
theorem wm_2_213 : Cond.code y_S_addedTo b_S_addedTo 5 (some .long) ∈ wG := List.mem_filter.mpr ⟨List.mem_append_right _ (List.mem_append_right _ (List.mem_append_left _ (List.mem_of_getElem? (i := 213) rfl))), rfl⟩
theorem wm_2_215 : Cond.methodLink "LinearRowsLaw" 142 y_L_forget ∈ wG := List.mem_filter.mpr ⟨List.mem_append_right _ (List.mem_append_right _ (List.mem_append_left _ (List.mem_of_getElem? (i := 215) rfl))), rfl⟩
theorem wm_2_216 : Cond.static y_L_forget ∈ wG := List.mem_filter.mpr ⟨List.mem_append_right _ (List.mem_append_right _ (List.mem_append_left _ (List.mem_of_getElem? (i := 216) rfl))), rfl⟩
theorem wm_2_217 : Cond.codeWith y_L_forget b_L_forget 5 (some .int) h_L_forget ∈ wG := List.mem_filter.mpr ⟨List.mem_append_right _ (List.mem_append_right _ (List.mem_append_left _ (List.mem_of_getElem? (i := 217) rfl))), rfl⟩
theorem wm_2_218 : Cond.methodLink "LinearRowsLaw" 50 y_X_forget ∈ wG := List.mem_filter.mpr ⟨List.mem_append_right _ (List.mem_append_right _ (List.mem_append_left _ (List.mem_of_getElem? (i := 218) rfl))), rfl⟩
theorem wm_2_219 : Cond.instanceMethod y_X_forget ∈ wG := List.mem_filter.mpr ⟨List.mem_append_right _ (List.mem_append_right _ (List.mem_append_left _ (List.mem_of_getElem? (i := 219) rfl))), rfl⟩
theorem wm_2_220 : Cond.selects "LinearRows" y_X_forget y_X_forget ∈ wG := List.mem_filter.mpr ⟨List.mem_append_right _ (List.mem_append_right _ (List.mem_append_left _ (List.mem_of_getElem? (i := 220) rfl))), rfl⟩
theorem wm_2_221 : Cond.code y_X_forget b_X_forget 3 (some .int) ∈ wG := List.mem_filter.mpr ⟨List.mem_append_right _ (List.mem_append_right _ (List.mem_append_left _ (List.mem_of_getElem? (i := 221) rfl))), rfl⟩
theorem wm_2_222 : Cond.methodLink "LinearRows" 119 y_S_becomeFree ∈ wG := List.mem_filter.mpr ⟨List.mem_append_right _ (List.mem_append_right _ (List.mem_append_left _ (List.mem_of_getElem? (i := 222) rfl))), rfl⟩
theorem wm_2_223 : Cond.instanceMethod y_S_becomeFree ∈ wG := List.mem_filter.mpr ⟨List.mem_append_right _ (List.mem_append_right _ (List.mem_append_left _ (List.mem_of_getElem? (i := 223) rfl))), rfl⟩
theorem wm_2_224 : Cond.selects "LinearRows$Shape" y_S_becomeFree y_S_becomeFree ∈ wG := List.mem_filter.mpr ⟨List.mem_append_right _ (List.mem_append_right _ (List.mem_append_left _ (List.mem_of_getElem? (i := 224) rfl))), rfl⟩
theorem wm_2_225 : Cond.code y_S_becomeFree b_S_becomeFree 4 none ∈ wG := List.mem_filter.mpr ⟨List.mem_append_right _ (List.mem_append_right _ (List.mem_append_left _ (List.mem_of_getElem? (i := 225) rfl))), rfl⟩
theorem wm_2_226 : Cond.methodLink "LinearRowsLaw" 146 y_L_within ∈ wG := List.mem_filter.mpr ⟨List.mem_append_right _ (List.mem_append_right _ (List.mem_append_left _ (List.mem_of_getElem? (i := 226) rfl))), rfl⟩
theorem wm_2_227 : Cond.static y_L_within ∈ wG := List.mem_filter.mpr ⟨List.mem_append_right _ (List.mem_append_right _ (List.mem_append_left _ (List.mem_of_getElem? (i := 227) rfl))), rfl⟩
theorem wm_2_228 : Cond.codeWith y_L_within b_L_within 5 (some .int) h_L_within ∈ wG := List.mem_filter.mpr ⟨List.mem_append_right _ (List.mem_append_right _ (List.mem_append_left _ (List.mem_of_getElem? (i := 228) rfl))), rfl⟩
theorem wm_2_229 : Cond.methodLink "LinearRowsLaw" 54 y_X_within ∈ wG := List.mem_filter.mpr ⟨List.mem_append_right _ (List.mem_append_right _ (List.mem_append_left _ (List.mem_of_getElem? (i := 229) rfl))), rfl⟩
theorem wm_2_230 : Cond.instanceMethod y_X_within ∈ wG := List.mem_filter.mpr ⟨List.mem_append_right _ (List.mem_append_right _ (List.mem_append_left _ (List.mem_of_getElem? (i := 230) rfl))), rfl⟩
theorem wm_2_231 : Cond.selects "LinearRows" y_X_within y_X_within ∈ wG := List.mem_filter.mpr ⟨List.mem_append_right _ (List.mem_append_right _ (List.mem_append_left _ (List.mem_of_getElem? (i := 231) rfl))), rfl⟩
theorem wm_2_232 : Cond.code y_X_within b_X_within 3 (some .boolean) ∈ wG := List.mem_filter.mpr ⟨List.mem_append_right _ (List.mem_append_right _ (List.mem_append_left _ (List.mem_of_getElem? (i := 232) rfl))), rfl⟩
theorem wm_2_233 : Cond.methodLink "LinearRows" 130 y_T_isNowhereAbove ∈ wG := List.mem_filter.mpr ⟨List.mem_append_right _ (List.mem_append_right _ (List.mem_append_left _ (List.mem_of_getElem? (i := 233) rfl))), rfl⟩
theorem wm_2_234 : Cond.instanceMethod y_T_isNowhereAbove ∈ wG := List.mem_filter.mpr ⟨List.mem_append_right _ (List.mem_append_right _ (List.mem_append_left _ (List.mem_of_getElem? (i := 234) rfl))), rfl⟩
theorem wm_2_235 : Cond.selects "LinearRows$Table" y_T_isNowhereAbove y_T_isNowhereAbove ∈ wG := List.mem_filter.mpr ⟨List.mem_append_right _ (List.mem_append_right _ (List.mem_append_left _ (List.mem_of_getElem? (i := 235) rfl))), rfl⟩
theorem wm_2_236 : Cond.code y_T_isNowhereAbove b_T_isNowhereAbove 4 (some .boolean) ∈ wG := List.mem_filter.mpr ⟨List.mem_append_right _ (List.mem_append_right _ (List.mem_append_left _ (List.mem_of_getElem? (i := 236) rfl))), rfl⟩
theorem wm_2_237 : Cond.methodLink "LinearRowsLaw" 149 y_L_put ∈ wG := List.mem_filter.mpr ⟨List.mem_append_right _ (List.mem_append_right _ (List.mem_append_left _ (List.mem_of_getElem? (i := 237) rfl))), rfl⟩
theorem wm_2_238 : Cond.static y_L_put ∈ wG := List.mem_filter.mpr ⟨List.mem_append_right _ (List.mem_append_right _ (List.mem_append_left _ (List.mem_of_getElem? (i := 238) rfl))), rfl⟩
theorem wm_2_239 : Cond.codeWith y_L_put b_L_put 6 (some .int) h_L_put ∈ wG := List.mem_filter.mpr ⟨List.mem_append_right _ (List.mem_append_right _ (List.mem_append_left _ (List.mem_of_getElem? (i := 239) rfl))), rfl⟩
theorem wm_3_0 : Cond.methodLink "LinearRowsLaw" 58 y_X_put ∈ wG := List.mem_filter.mpr ⟨List.mem_append_right _ (List.mem_append_right _ (List.mem_append_right _ (List.mem_append_left _ (List.mem_of_getElem? (i := 0) rfl)))), rfl⟩
theorem wm_3_1 : Cond.instanceMethod y_X_put ∈ wG := List.mem_filter.mpr ⟨List.mem_append_right _ (List.mem_append_right _ (List.mem_append_right _ (List.mem_append_left _ (List.mem_of_getElem? (i := 1) rfl)))), rfl⟩
theorem wm_3_2 : Cond.selects "LinearRows" y_X_put y_X_put ∈ wG := List.mem_filter.mpr ⟨List.mem_append_right _ (List.mem_append_right _ (List.mem_append_right _ (List.mem_append_left _ (List.mem_of_getElem? (i := 2) rfl)))), rfl⟩
theorem wm_3_3 : Cond.code y_X_put b_X_put 6 (some .long) ∈ wG := List.mem_filter.mpr ⟨List.mem_append_right _ (List.mem_append_right _ (List.mem_append_right _ (List.mem_append_left _ (List.mem_of_getElem? (i := 3) rfl)))), rfl⟩
theorem wm_3_4 : Cond.methodLink "LinearRowsLaw" 153 y_L_point ∈ wG := List.mem_filter.mpr ⟨List.mem_append_right _ (List.mem_append_right _ (List.mem_append_right _ (List.mem_append_left _ (List.mem_of_getElem? (i := 4) rfl)))), rfl⟩
theorem wm_3_5 : Cond.static y_L_point ∈ wG := List.mem_filter.mpr ⟨List.mem_append_right _ (List.mem_append_right _ (List.mem_append_right _ (List.mem_append_left _ (List.mem_of_getElem? (i := 5) rfl)))), rfl⟩
theorem wm_3_6 : Cond.codeWith y_L_point b_L_point 4 (some .int) h_L_point ∈ wG := List.mem_filter.mpr ⟨List.mem_append_right _ (List.mem_append_right _ (List.mem_append_right _ (List.mem_append_left _ (List.mem_of_getElem? (i := 6) rfl)))), rfl⟩
theorem wm_3_7 : Cond.methodLink "LinearRowsLaw" 62 y_X_point ∈ wG := List.mem_filter.mpr ⟨List.mem_append_right _ (List.mem_append_right _ (List.mem_append_right _ (List.mem_append_left _ (List.mem_of_getElem? (i := 7) rfl)))), rfl⟩
theorem wm_3_8 : Cond.instanceMethod y_X_point ∈ wG := List.mem_filter.mpr ⟨List.mem_append_right _ (List.mem_append_right _ (List.mem_append_right _ (List.mem_append_left _ (List.mem_of_getElem? (i := 8) rfl)))), rfl⟩
theorem wm_3_9 : Cond.selects "LinearRows" y_X_point y_X_point ∈ wG := List.mem_filter.mpr ⟨List.mem_append_right _ (List.mem_append_right _ (List.mem_append_right _ (List.mem_append_left _ (List.mem_of_getElem? (i := 9) rfl)))), rfl⟩
theorem wm_3_10 : Cond.code y_X_point b_X_point 2 (some .long) ∈ wG := List.mem_filter.mpr ⟨List.mem_append_right _ (List.mem_append_right _ (List.mem_append_right _ (List.mem_append_left _ (List.mem_of_getElem? (i := 10) rfl)))), rfl⟩
theorem wm_3_11 : Cond.methodLink "LinearRowsLaw" 157 y_L_has ∈ wG := List.mem_filter.mpr ⟨List.mem_append_right _ (List.mem_append_right _ (List.mem_append_right _ (List.mem_append_left _ (List.mem_of_getElem? (i := 11) rfl)))), rfl⟩
theorem wm_3_12 : Cond.static y_L_has ∈ wG := List.mem_filter.mpr ⟨List.mem_append_right _ (List.mem_append_right _ (List.mem_append_right _ (List.mem_append_left _ (List.mem_of_getElem? (i := 12) rfl)))), rfl⟩
theorem wm_3_13 : Cond.codeWith y_L_has b_L_has 4 (some .int) h_L_has ∈ wG := List.mem_filter.mpr ⟨List.mem_append_right _ (List.mem_append_right _ (List.mem_append_right _ (List.mem_append_left _ (List.mem_of_getElem? (i := 13) rfl)))), rfl⟩
theorem wm_3_14 : Cond.methodLink "LinearRowsLaw" 66 y_X_has ∈ wG := List.mem_filter.mpr ⟨List.mem_append_right _ (List.mem_append_right _ (List.mem_append_right _ (List.mem_append_left _ (List.mem_of_getElem? (i := 14) rfl)))), rfl⟩
theorem wm_3_15 : Cond.instanceMethod y_X_has ∈ wG := List.mem_filter.mpr ⟨List.mem_append_right _ (List.mem_append_right _ (List.mem_append_right _ (List.mem_append_left _ (List.mem_of_getElem? (i := 15) rfl)))), rfl⟩
theorem wm_3_16 : Cond.selects "LinearRows" y_X_has y_X_has ∈ wG := List.mem_filter.mpr ⟨List.mem_append_right _ (List.mem_append_right _ (List.mem_append_right _ (List.mem_append_left _ (List.mem_of_getElem? (i := 16) rfl)))), rfl⟩
theorem wm_3_17 : Cond.code y_X_has b_X_has 4 (some .boolean) ∈ wG := List.mem_filter.mpr ⟨List.mem_append_right _ (List.mem_append_right _ (List.mem_append_right _ (List.mem_append_left _ (List.mem_of_getElem? (i := 17) rfl)))), rfl⟩
theorem wm_3_18 : Cond.methodLink "LinearRows" 134 y_X_numberAt ∈ wG := List.mem_filter.mpr ⟨List.mem_append_right _ (List.mem_append_right _ (List.mem_append_right _ (List.mem_append_left _ (List.mem_of_getElem? (i := 18) rfl)))), rfl⟩
theorem wm_3_20 : Cond.instanceMethod y_X_numberAt ∈ wG := List.mem_filter.mpr ⟨List.mem_append_right _ (List.mem_append_right _ (List.mem_append_right _ (List.mem_append_left _ (List.mem_of_getElem? (i := 20) rfl)))), rfl⟩
theorem wm_3_21 : Cond.code y_X_numberAt b_X_numberAt 4 (some .long) ∈ wG := List.mem_filter.mpr ⟨List.mem_append_right _ (List.mem_append_right _ (List.mem_append_right _ (List.mem_append_left _ (List.mem_of_getElem? (i := 21) rfl)))), rfl⟩
theorem wm_3_22 : Cond.methodLink "LinearRows" 138 y_T_at ∈ wG := List.mem_filter.mpr ⟨List.mem_append_right _ (List.mem_append_right _ (List.mem_append_right _ (List.mem_append_left _ (List.mem_of_getElem? (i := 22) rfl)))), rfl⟩
theorem wm_3_23 : Cond.methodLink "LinearRowsLaw" 160 y_L_sample ∈ wG := List.mem_filter.mpr ⟨List.mem_append_right _ (List.mem_append_right _ (List.mem_append_right _ (List.mem_append_left _ (List.mem_of_getElem? (i := 23) rfl)))), rfl⟩
theorem wm_3_24 : Cond.static y_L_sample ∈ wG := List.mem_filter.mpr ⟨List.mem_append_right _ (List.mem_append_right _ (List.mem_append_right _ (List.mem_append_left _ (List.mem_of_getElem? (i := 24) rfl)))), rfl⟩
theorem wm_3_25 : Cond.codeWith y_L_sample b_L_sample 4 (some .int) h_L_sample ∈ wG := List.mem_filter.mpr ⟨List.mem_append_right _ (List.mem_append_right _ (List.mem_append_right _ (List.mem_append_left _ (List.mem_of_getElem? (i := 25) rfl)))), rfl⟩
theorem wm_3_26 : Cond.methodLink "LinearRowsLaw" 70 y_X_sample ∈ wG := List.mem_filter.mpr ⟨List.mem_append_right _ (List.mem_append_right _ (List.mem_append_right _ (List.mem_append_left _ (List.mem_of_getElem? (i := 26) rfl)))), rfl⟩
theorem wm_3_27 : Cond.instanceMethod y_X_sample ∈ wG := List.mem_filter.mpr ⟨List.mem_append_right _ (List.mem_append_right _ (List.mem_append_right _ (List.mem_append_left _ (List.mem_of_getElem? (i := 27) rfl)))), rfl⟩
theorem wm_3_28 : Cond.selects "LinearRows" y_X_sample y_X_sample ∈ wG := List.mem_filter.mpr ⟨List.mem_append_right _ (List.mem_append_right _ (List.mem_append_right _ (List.mem_append_left _ (List.mem_of_getElem? (i := 28) rfl)))), rfl⟩
theorem wm_3_29 : Cond.code y_X_sample b_X_sample 3 (some .boolean) ∈ wG := List.mem_filter.mpr ⟨List.mem_append_right _ (List.mem_append_right _ (List.mem_append_right _ (List.mem_append_left _ (List.mem_of_getElem? (i := 29) rfl)))), rfl⟩
theorem wm_3_30 : Cond.methodLink "LinearRows" 141 y_X_sampleNumber ∈ wG := List.mem_filter.mpr ⟨List.mem_append_right _ (List.mem_append_right _ (List.mem_append_right _ (List.mem_append_left _ (List.mem_of_getElem? (i := 30) rfl)))), rfl⟩
theorem wm_3_32 : Cond.instanceMethod y_X_sampleNumber ∈ wG := List.mem_filter.mpr ⟨List.mem_append_right _ (List.mem_append_right _ (List.mem_append_right _ (List.mem_append_left _ (List.mem_of_getElem? (i := 32) rfl)))), rfl⟩
theorem wm_3_33 : Cond.code y_X_sampleNumber b_X_sampleNumber 7 (some .long) ∈ wG := List.mem_filter.mpr ⟨List.mem_append_right _ (List.mem_append_right _ (List.mem_append_right _ (List.mem_append_left _ (List.mem_of_getElem? (i := 33) rfl)))), rfl⟩
theorem wm_3_34 : Cond.methodLink "LinearRows" 177 y_X_placeOf ∈ wG := List.mem_filter.mpr ⟨List.mem_append_right _ (List.mem_append_right _ (List.mem_append_right _ (List.mem_append_left _ (List.mem_of_getElem? (i := 34) rfl)))), rfl⟩
theorem wm_3_35 : Cond.methodLink "LinearRows" 216 y_X_greatestBeside ∈ wG := List.mem_filter.mpr ⟨List.mem_append_right _ (List.mem_append_right _ (List.mem_append_right _ (List.mem_append_left _ (List.mem_of_getElem? (i := 35) rfl)))), rfl⟩
theorem wm_3_37 : Cond.instanceMethod y_X_greatestBeside ∈ wG := List.mem_filter.mpr ⟨List.mem_append_right _ (List.mem_append_right _ (List.mem_append_right _ (List.mem_append_left _ (List.mem_of_getElem? (i := 37) rfl)))), rfl⟩
theorem wm_3_38 : Cond.code y_X_greatestBeside b_X_greatestBeside 7 (some .long) ∈ wG := List.mem_filter.mpr ⟨List.mem_append_right _ (List.mem_append_right _ (List.mem_append_right _ (List.mem_append_left _ (List.mem_of_getElem? (i := 38) rfl)))), rfl⟩
theorem wm_3_39 : Cond.methodLink "LinearRows" 219 y_T_half ∈ wG := List.mem_filter.mpr ⟨List.mem_append_right _ (List.mem_append_right _ (List.mem_append_right _ (List.mem_append_left _ (List.mem_of_getElem? (i := 39) rfl)))), rfl⟩
theorem wm_3_40 : Cond.methodLink "LinearRows" 222 y_X_plus ∈ wG := List.mem_filter.mpr ⟨List.mem_append_right _ (List.mem_append_right _ (List.mem_append_right _ (List.mem_append_left _ (List.mem_of_getElem? (i := 40) rfl)))), rfl⟩
theorem wm_3_41 : Cond.methodLink "LinearRows" 226 y_JM_min_JJJ ∈ wG := List.mem_filter.mpr ⟨List.mem_append_right _ (List.mem_append_right _ (List.mem_append_right _ (List.mem_append_left _ (List.mem_of_getElem? (i := 41) rfl)))), rfl⟩
theorem wm_3_42 : Cond.methodLink "LinearRowsLaw" 163 y_L_needed ∈ wG := List.mem_filter.mpr ⟨List.mem_append_right _ (List.mem_append_right _ (List.mem_append_right _ (List.mem_append_left _ (List.mem_of_getElem? (i := 42) rfl)))), rfl⟩
theorem wm_3_43 : Cond.static y_L_needed ∈ wG := List.mem_filter.mpr ⟨List.mem_append_right _ (List.mem_append_right _ (List.mem_append_right _ (List.mem_append_left _ (List.mem_of_getElem? (i := 43) rfl)))), rfl⟩
theorem wm_3_44 : Cond.codeWith y_L_needed b_L_needed 4 (some .int) h_L_needed ∈ wG := List.mem_filter.mpr ⟨List.mem_append_right _ (List.mem_append_right _ (List.mem_append_right _ (List.mem_append_left _ (List.mem_of_getElem? (i := 44) rfl)))), rfl⟩
theorem wm_3_45 : Cond.methodLink "LinearRowsLaw" 73 y_X_needed ∈ wG := List.mem_filter.mpr ⟨List.mem_append_right _ (List.mem_append_right _ (List.mem_append_right _ (List.mem_append_left _ (List.mem_of_getElem? (i := 45) rfl)))), rfl⟩
theorem wm_3_46 : Cond.instanceMethod y_X_needed ∈ wG := List.mem_filter.mpr ⟨List.mem_append_right _ (List.mem_append_right _ (List.mem_append_right _ (List.mem_append_left _ (List.mem_of_getElem? (i := 46) rfl)))), rfl⟩
theorem wm_3_47 : Cond.selects "LinearRows" y_X_needed y_X_needed ∈ wG := List.mem_filter.mpr ⟨List.mem_append_right _ (List.mem_append_right _ (List.mem_append_right _ (List.mem_append_left _ (List.mem_of_getElem? (i := 47) rfl)))), rfl⟩
theorem wm_3_48 : Cond.code y_X_needed b_X_needed 2 (some .int) ∈ wG := List.mem_filter.mpr ⟨List.mem_append_right _ (List.mem_append_right _ (List.mem_append_right _ (List.mem_append_left _ (List.mem_of_getElem? (i := 48) rfl)))), rfl⟩
theorem wm_3_49 : Cond.constantLong "LinearRows" 145 (-1) ∈ wG := List.mem_filter.mpr ⟨List.mem_append_right _ (List.mem_append_right _ (List.mem_append_right _ (List.mem_append_left _ (List.mem_of_getElem? (i := 49) rfl)))), rfl⟩
theorem wm_3_50 : Cond.methodLink "LinearRows" 147 y_X_tellRow ∈ wG := List.mem_filter.mpr ⟨List.mem_append_right _ (List.mem_append_right _ (List.mem_append_right _ (List.mem_append_left _ (List.mem_of_getElem? (i := 50) rfl)))), rfl⟩
theorem wm_3_52 : Cond.instanceMethod y_X_tellRow ∈ wG := List.mem_filter.mpr ⟨List.mem_append_right _ (List.mem_append_right _ (List.mem_append_right _ (List.mem_append_left _ (List.mem_of_getElem? (i := 52) rfl)))), rfl⟩
theorem wm_3_53 : Cond.code y_X_tellRow b_X_tellRow 6 none ∈ wG := List.mem_filter.mpr ⟨List.mem_append_right _ (List.mem_append_right _ (List.mem_append_right _ (List.mem_append_left _ (List.mem_of_getElem? (i := 53) rfl)))), rfl⟩
theorem wm_3_54 : Cond.methodLink "LinearRows" 150 y_T_takeFrom ∈ wG := List.mem_filter.mpr ⟨List.mem_append_right _ (List.mem_append_right _ (List.mem_append_right _ (List.mem_append_left _ (List.mem_of_getElem? (i := 54) rfl)))), rfl⟩
theorem wm_3_55 : Cond.methodLink "LinearRows" 154 y_X_leaveOutPairs ∈ wG := List.mem_filter.mpr ⟨List.mem_append_right _ (List.mem_append_right _ (List.mem_append_right _ (List.mem_append_left _ (List.mem_of_getElem? (i := 55) rfl)))), rfl⟩
theorem wm_3_57 : Cond.instanceMethod y_X_leaveOutPairs ∈ wG := List.mem_filter.mpr ⟨List.mem_append_right _ (List.mem_append_right _ (List.mem_append_right _ (List.mem_append_left _ (List.mem_of_getElem? (i := 57) rfl)))), rfl⟩
theorem wm_3_58 : Cond.code y_X_leaveOutPairs b_X_leaveOutPairs 3 none ∈ wG := List.mem_filter.mpr ⟨List.mem_append_right _ (List.mem_append_right _ (List.mem_append_right _ (List.mem_append_left _ (List.mem_of_getElem? (i := 58) rfl)))), rfl⟩
theorem wm_3_59 : Cond.methodLink "LinearRows" 228 y_X_placeOfNextName ∈ wG := List.mem_filter.mpr ⟨List.mem_append_right _ (List.mem_append_right _ (List.mem_append_right _ (List.mem_append_left _ (List.mem_of_getElem? (i := 59) rfl)))), rfl⟩
theorem wm_3_60 : Cond.static y_X_placeOfNextName ∈ wG := List.mem_filter.mpr ⟨List.mem_append_right _ (List.mem_append_right _ (List.mem_append_right _ (List.mem_append_left _ (List.mem_of_getElem? (i := 60) rfl)))), rfl⟩
theorem wm_3_61 : Cond.code y_X_placeOfNextName b_X_placeOfNextName 1 (some .int) ∈ wG := List.mem_filter.mpr ⟨List.mem_append_right _ (List.mem_append_right _ (List.mem_append_right _ (List.mem_append_left _ (List.mem_of_getElem? (i := 61) rfl)))), rfl⟩
theorem wm_3_62 : Cond.methodLink "LinearRows" 231 y_X_leaveOutUnlessNeeded ∈ wG := List.mem_filter.mpr ⟨List.mem_append_right _ (List.mem_append_right _ (List.mem_append_right _ (List.mem_append_left _ (List.mem_of_getElem? (i := 62) rfl)))), rfl⟩
theorem wm_3_64 : Cond.instanceMethod y_X_leaveOutUnlessNeeded ∈ wG := List.mem_filter.mpr ⟨List.mem_append_right _ (List.mem_append_right _ (List.mem_append_right _ (List.mem_append_left _ (List.mem_of_getElem? (i := 64) rfl)))), rfl⟩
theorem wm_3_65 : Cond.code y_X_leaveOutUnlessNeeded b_X_leaveOutUnlessNeeded 5 none ∈ wG := List.mem_filter.mpr ⟨List.mem_append_right _ (List.mem_append_right _ (List.mem_append_right _ (List.mem_append_left _ (List.mem_of_getElem? (i := 65) rfl)))), rfl⟩
theorem wm_3_66 : Cond.methodLink "LinearRows" 235 y_T_store ∈ wG := List.mem_filter.mpr ⟨List.mem_append_right _ (List.mem_append_right _ (List.mem_append_right _ (List.mem_append_left _ (List.mem_of_getElem? (i := 66) rfl)))), rfl⟩
theorem wm_3_67 : Cond.methodLink "LinearRows" 183 y_T_close ∈ wG := List.mem_filter.mpr ⟨List.mem_append_right _ (List.mem_append_right _ (List.mem_append_right _ (List.mem_append_left _ (List.mem_of_getElem? (i := 67) rfl)))), rfl⟩
theorem wm_3_68 : Cond.methodLink "LinearRows" 157 y_X_leaveOutSingles ∈ wG := List.mem_filter.mpr ⟨List.mem_append_right _ (List.mem_append_right _ (List.mem_append_right _ (List.mem_append_left _ (List.mem_of_getElem? (i := 68) rfl)))), rfl⟩
theorem wm_3_70 : Cond.instanceMethod y_X_leaveOutSingles ∈ wG := List.mem_filter.mpr ⟨List.mem_append_right _ (List.mem_append_right _ (List.mem_append_right _ (List.mem_append_left _ (List.mem_of_getElem? (i := 70) rfl)))), rfl⟩
theorem wm_3_71 : Cond.code y_X_leaveOutSingles b_X_leaveOutSingles 2 none ∈ wG := List.mem_filter.mpr ⟨List.mem_append_right _ (List.mem_append_right _ (List.mem_append_right _ (List.mem_append_left _ (List.mem_of_getElem? (i := 71) rfl)))), rfl⟩
theorem wm_3_72 : Cond.methodLink "LinearRows" 160 y_X_tellLeftRows ∈ wG := List.mem_filter.mpr ⟨List.mem_append_right _ (List.mem_append_right _ (List.mem_append_right _ (List.mem_append_left _ (List.mem_of_getElem? (i := 72) rfl)))), rfl⟩
theorem wm_3_74 : Cond.instanceMethod y_X_tellLeftRows ∈ wG := List.mem_filter.mpr ⟨List.mem_append_right _ (List.mem_append_right _ (List.mem_append_right _ (List.mem_append_left _ (List.mem_of_getElem? (i := 74) rfl)))), rfl⟩
theorem wm_3_75 : Cond.code y_X_tellLeftRows b_X_tellLeftRows 3 none ∈ wG := List.mem_filter.mpr ⟨List.mem_append_right _ (List.mem_append_right _ (List.mem_append_right _ (List.mem_append_left _ (List.mem_of_getElem? (i := 75) rfl)))), rfl⟩
theorem wm_3_76 : Cond.methodLink "LinearRows" 238 y_X_termAt ∈ wG := List.mem_filter.mpr ⟨List.mem_append_right _ (List.mem_append_right _ (List.mem_append_right _ (List.mem_append_left _ (List.mem_of_getElem? (i := 76) rfl)))), rfl⟩
theorem wm_3_77 : Cond.methodLink "LinearRowsLaw" 166 y_L_needs ∈ wG := List.mem_filter.mpr ⟨List.mem_append_right _ (List.mem_append_right _ (List.mem_append_right _ (List.mem_append_left _ (List.mem_of_getElem? (i := 77) rfl)))), rfl⟩
theorem wm_3_78 : Cond.static y_L_needs ∈ wG := List.mem_filter.mpr ⟨List.mem_append_right _ (List.mem_append_right _ (List.mem_append_right _ (List.mem_append_left _ (List.mem_of_getElem? (i := 78) rfl)))), rfl⟩
theorem wm_3_79 : Cond.codeWith y_L_needs b_L_needs 5 (some .int) h_L_needs ∈ wG := List.mem_filter.mpr ⟨List.mem_append_right _ (List.mem_append_right _ (List.mem_append_right _ (List.mem_append_left _ (List.mem_of_getElem? (i := 79) rfl)))), rfl⟩
theorem wm_3_80 : Cond.methodLink "LinearRowsLaw" 77 y_X_needs ∈ wG := List.mem_filter.mpr ⟨List.mem_append_right _ (List.mem_append_right _ (List.mem_append_right _ (List.mem_append_left _ (List.mem_of_getElem? (i := 80) rfl)))), rfl⟩
theorem wm_3_81 : Cond.instanceMethod y_X_needs ∈ wG := List.mem_filter.mpr ⟨List.mem_append_right _ (List.mem_append_right _ (List.mem_append_right _ (List.mem_append_left _ (List.mem_of_getElem? (i := 81) rfl)))), rfl⟩
theorem wm_3_82 : Cond.selects "LinearRows" y_X_needs y_X_needs ∈ wG := List.mem_filter.mpr ⟨List.mem_append_right _ (List.mem_append_right _ (List.mem_append_right _ (List.mem_append_left _ (List.mem_of_getElem? (i := 82) rfl)))), rfl⟩
theorem wm_3_83 : Cond.code y_X_needs b_X_needs 3 (some .long) ∈ wG := List.mem_filter.mpr ⟨List.mem_append_right _ (List.mem_append_right _ (List.mem_append_right _ (List.mem_append_left _ (List.mem_of_getElem? (i := 83) rfl)))), rfl⟩
theorem wm_3_85 : Cond.methodLink "LinearRowsLaw" 169 y_L_fits ∈ wG := List.mem_filter.mpr ⟨List.mem_append_right _ (List.mem_append_right _ (List.mem_append_right _ (List.mem_append_left _ (List.mem_of_getElem? (i := 85) rfl)))), rfl⟩
theorem wm_3_86 : Cond.static y_L_fits ∈ wG := List.mem_filter.mpr ⟨List.mem_append_right _ (List.mem_append_right _ (List.mem_append_right _ (List.mem_append_left _ (List.mem_of_getElem? (i := 86) rfl)))), rfl⟩
theorem wm_3_87 : Cond.codeWith y_L_fits b_L_fits 6 (some .int) h_L_fits ∈ wG := List.mem_filter.mpr ⟨List.mem_append_right _ (List.mem_append_right _ (List.mem_append_right _ (List.mem_append_left _ (List.mem_of_getElem? (i := 87) rfl)))), rfl⟩
theorem wm_3_88 : Cond.methodLink "LinearRowsLaw" 81 y_X_fits ∈ wG := List.mem_filter.mpr ⟨List.mem_append_right _ (List.mem_append_right _ (List.mem_append_right _ (List.mem_append_left _ (List.mem_of_getElem? (i := 88) rfl)))), rfl⟩
theorem wm_3_89 : Cond.instanceMethod y_X_fits ∈ wG := List.mem_filter.mpr ⟨List.mem_append_right _ (List.mem_append_right _ (List.mem_append_right _ (List.mem_append_left _ (List.mem_of_getElem? (i := 89) rfl)))), rfl⟩
theorem wm_3_90 : Cond.selects "LinearRows" y_X_fits y_X_fits ∈ wG := List.mem_filter.mpr ⟨List.mem_append_right _ (List.mem_append_right _ (List.mem_append_right _ (List.mem_append_left _ (List.mem_of_getElem? (i := 90) rfl)))), rfl⟩
theorem wm_3_91 : Cond.code y_X_fits b_X_fits 6 (some .boolean) ∈ wG := List.mem_filter.mpr ⟨List.mem_append_right _ (List.mem_append_right _ (List.mem_append_right _ (List.mem_append_left _ (List.mem_of_getElem? (i := 91) rfl)))), rfl⟩
theorem wm_3_93 : Cond.methodLink "LinearRowsLaw" 172 y_L_array ∈ wG := List.mem_filter.mpr ⟨List.mem_append_right _ (List.mem_append_right _ (List.mem_append_right _ (List.mem_append_left _ (List.mem_of_getElem? (i := 93) rfl)))), rfl⟩
theorem wm_3_94 : Cond.static y_L_array ∈ wG := List.mem_filter.mpr ⟨List.mem_append_right _ (List.mem_append_right _ (List.mem_append_right _ (List.mem_append_left _ (List.mem_of_getElem? (i := 94) rfl)))), rfl⟩
theorem wm_3_95 : Cond.codeWith y_L_array b_L_array 6 (some .int) h_L_array ∈ wG := List.mem_filter.mpr ⟨List.mem_append_right _ (List.mem_append_right _ (List.mem_append_right _ (List.mem_append_left _ (List.mem_of_getElem? (i := 95) rfl)))), rfl⟩
theorem wm_3_96 : Cond.methodLink "LinearRowsLaw" 85 y_X_array ∈ wG := List.mem_filter.mpr ⟨List.mem_append_right _ (List.mem_append_right _ (List.mem_append_right _ (List.mem_append_left _ (List.mem_of_getElem? (i := 96) rfl)))), rfl⟩
theorem wm_3_97 : Cond.instanceMethod y_X_array ∈ wG := List.mem_filter.mpr ⟨List.mem_append_right _ (List.mem_append_right _ (List.mem_append_right _ (List.mem_append_left _ (List.mem_of_getElem? (i := 97) rfl)))), rfl⟩
theorem wm_3_98 : Cond.selects "LinearRows" y_X_array y_X_array ∈ wG := List.mem_filter.mpr ⟨List.mem_append_right _ (List.mem_append_right _ (List.mem_append_right _ (List.mem_append_left _ (List.mem_of_getElem? (i := 98) rfl)))), rfl⟩
theorem wm_3_99 : Cond.code y_X_array b_X_array 5 (some .int) ∈ wG := List.mem_filter.mpr ⟨List.mem_append_right _ (List.mem_append_right _ (List.mem_append_right _ (List.mem_append_left _ (List.mem_of_getElem? (i := 99) rfl)))), rfl⟩
theorem wm_3_101 : Cond.methodLink "LinearRows" 180 y_T_lowerTo ∈ wG := List.mem_filter.mpr ⟨List.mem_append_right _ (List.mem_append_right _ (List.mem_append_right _ (List.mem_append_left _ (List.mem_of_getElem? (i := 101) rfl)))), rfl⟩
theorem wm_3_102 : Cond.methodLink "LinearRowsLaw" 175 y_L_told ∈ wG := List.mem_filter.mpr ⟨List.mem_append_right _ (List.mem_append_right _ (List.mem_append_right _ (List.mem_append_left _ (List.mem_of_getElem? (i := 102) rfl)))), rfl⟩
theorem wm_3_103 : Cond.static y_L_told ∈ wG := List.mem_filter.mpr ⟨List.mem_append_right _ (List.mem_append_right _ (List.mem_append_right _ (List.mem_append_left _ (List.mem_of_getElem? (i := 103) rfl)))), rfl⟩
theorem wm_3_104 : Cond.codeWith y_L_told b_L_told 4 (some .int) h_L_told ∈ wG := List.mem_filter.mpr ⟨List.mem_append_right _ (List.mem_append_right _ (List.mem_append_right _ (List.mem_append_left _ (List.mem_of_getElem? (i := 104) rfl)))), rfl⟩
theorem wm_3_105 : Cond.methodLink "LinearRowsLaw" 88 y_X_told ∈ wG := List.mem_filter.mpr ⟨List.mem_append_right _ (List.mem_append_right _ (List.mem_append_right _ (List.mem_append_left _ (List.mem_of_getElem? (i := 105) rfl)))), rfl⟩
theorem wm_3_106 : Cond.instanceMethod y_X_told ∈ wG := List.mem_filter.mpr ⟨List.mem_append_right _ (List.mem_append_right _ (List.mem_append_right _ (List.mem_append_left _ (List.mem_of_getElem? (i := 106) rfl)))), rfl⟩
theorem wm_3_107 : Cond.selects "LinearRows" y_X_told y_X_told ∈ wG := List.mem_filter.mpr ⟨List.mem_append_right _ (List.mem_append_right _ (List.mem_append_right _ (List.mem_append_left _ (List.mem_of_getElem? (i := 107) rfl)))), rfl⟩
theorem wm_3_108 : Cond.code y_X_told b_X_told 2 (some .int) ∈ wG := List.mem_filter.mpr ⟨List.mem_append_right _ (List.mem_append_right _ (List.mem_append_right _ (List.mem_append_left _ (List.mem_of_getElem? (i := 108) rfl)))), rfl⟩
theorem wm_3_110 : Cond.methodLink "LinearRows" 189 y_X_countEmpty ∈ wG := List.mem_filter.mpr ⟨List.mem_append_right _ (List.mem_append_right _ (List.mem_append_right _ (List.mem_append_left _ (List.mem_of_getElem? (i := 110) rfl)))), rfl⟩
theorem wm_3_112 : Cond.instanceMethod y_X_countEmpty ∈ wG := List.mem_filter.mpr ⟨List.mem_append_right _ (List.mem_append_right _ (List.mem_append_right _ (List.mem_append_left _ (List.mem_of_getElem? (i := 112) rfl)))), rfl⟩
theorem wm_3_113 : Cond.code y_X_countEmpty b_X_countEmpty 3 (some .int) ∈ wG := List.mem_filter.mpr ⟨List.mem_append_right _ (List.mem_append_right _ (List.mem_append_right _ (List.mem_append_left _ (List.mem_of_getElem? (i := 113) rfl)))), rfl⟩
theorem wm_3_114 : Cond.methodLink "LinearRows" 193 y_T_countRows ∈ wG := List.mem_filter.mpr ⟨List.mem_append_right _ (List.mem_append_right _ (List.mem_append_right _ (List.mem_append_left _ (List.mem_of_getElem? (i := 114) rfl)))), rfl⟩
theorem wm_3_115 : Cond.instanceMethod y_T_countRows ∈ wG := List.mem_filter.mpr ⟨List.mem_append_right _ (List.mem_append_right _ (List.mem_append_right _ (List.mem_append_left _ (List.mem_of_getElem? (i := 115) rfl)))), rfl⟩
theorem wm_3_116 : Cond.selects "LinearRows$Table" y_T_countRows y_T_countRows ∈ wG := List.mem_filter.mpr ⟨List.mem_append_right _ (List.mem_append_right _ (List.mem_append_right _ (List.mem_append_left _ (List.mem_of_getElem? (i := 116) rfl)))), rfl⟩
theorem wm_3_117 : Cond.code y_T_countRows b_T_countRows 4 (some .int) ∈ wG := List.mem_filter.mpr ⟨List.mem_append_right _ (List.mem_append_right _ (List.mem_append_right _ (List.mem_append_left _ (List.mem_of_getElem? (i := 117) rfl)))), rfl⟩
theorem wm_3_118 : Cond.classLink "LinearRowsLaw" 99 "LinearRowsModel" ∈ wG := List.mem_filter.mpr ⟨List.mem_append_right _ (List.mem_append_right _ (List.mem_append_right _ (List.mem_append_left _ (List.mem_of_getElem? (i := 118) rfl)))), rfl⟩
theorem wm_3_119 : Cond.instantiable "LinearRowsModel" 13 ∈ wG := List.mem_filter.mpr ⟨List.mem_append_right _ (List.mem_append_right _ (List.mem_append_right _ (List.mem_append_left _ (List.mem_of_getElem? (i := 119) rfl)))), rfl⟩
theorem wm_3_120 : Cond.methodLink "LinearRowsLaw" 101 y_M_init ∈ wG := List.mem_filter.mpr ⟨List.mem_append_right _ (List.mem_append_right _ (List.mem_append_right _ (List.mem_append_left _ (List.mem_of_getElem? (i := 120) rfl)))), rfl⟩
theorem wm_3_121 : Cond.instanceMethod y_M_init ∈ wG := List.mem_filter.mpr ⟨List.mem_append_right _ (List.mem_append_right _ (List.mem_append_right _ (List.mem_append_left _ (List.mem_of_getElem? (i := 121) rfl)))), rfl⟩
theorem wm_3_122 : Cond.code y_M_init b_M_init 3 none ∈ wG := List.mem_filter.mpr ⟨List.mem_append_right _ (List.mem_append_right _ (List.mem_append_right _ (List.mem_append_left _ (List.mem_of_getElem? (i := 122) rfl)))), rfl⟩
theorem wm_3_123 : Cond.methodLink "LinearRowsModel" 1 ⟨"java/lang/Object", "<init>", "()V"⟩ ∈ wG := List.mem_filter.mpr ⟨List.mem_append_right _ (List.mem_append_right _ (List.mem_append_right _ (List.mem_append_left _ (List.mem_of_getElem? (i := 123) rfl)))), rfl⟩
theorem wm_3_124 : Cond.constantLong "LinearRowsModel" 46 4611686018427387904 ∈ wG := List.mem_filter.mpr ⟨List.mem_append_right _ (List.mem_append_right _ (List.mem_append_right _ (List.mem_append_left _ (List.mem_of_getElem? (i := 124) rfl)))), rfl⟩
theorem wm_3_125 : Cond.fieldLink "LinearRowsModel" 48 "LinearRowsModel" "thrown" "I" ∈ wG := List.mem_filter.mpr ⟨List.mem_append_right _ (List.mem_append_right _ (List.mem_append_right _ (List.mem_append_left _ (List.mem_of_getElem? (i := 125) rfl)))), rfl⟩
theorem wm_3_126 : Cond.fieldLink "LinearRowsModel" 42 "LinearRowsModel" "n" "I" ∈ wG := List.mem_filter.mpr ⟨List.mem_append_right _ (List.mem_append_right _ (List.mem_append_right _ (List.mem_append_left _ (List.mem_of_getElem? (i := 126) rfl)))), rfl⟩
theorem wm_3_127 : Cond.fieldLink "LinearRowsModel" 7 "LinearRowsModel" "rows" "[J" ∈ wG := List.mem_filter.mpr ⟨List.mem_append_right _ (List.mem_append_right _ (List.mem_append_right _ (List.mem_append_left _ (List.mem_of_getElem? (i := 127) rfl)))), rfl⟩
theorem wm_3_128 : Cond.fieldLink "LinearRowsModel" 13 "LinearRowsModel" "isEmpty" "[Z" ∈ wG := List.mem_filter.mpr ⟨List.mem_append_right _ (List.mem_append_right _ (List.mem_append_right _ (List.mem_append_left _ (List.mem_of_getElem? (i := 128) rfl)))), rfl⟩
theorem wm_3_129 : Cond.fieldLink "LinearRowsModel" 17 "LinearRowsModel" "d" "[J" ∈ wG := List.mem_filter.mpr ⟨List.mem_append_right _ (List.mem_append_right _ (List.mem_append_right _ (List.mem_append_left _ (List.mem_of_getElem? (i := 129) rfl)))), rfl⟩
theorem wm_3_130 : Cond.fieldLink "LinearRowsModel" 20 "LinearRowsModel" "other" "[J" ∈ wG := List.mem_filter.mpr ⟨List.mem_append_right _ (List.mem_append_right _ (List.mem_append_right _ (List.mem_append_left _ (List.mem_of_getElem? (i := 130) rfl)))), rfl⟩
theorem wm_3_131 : Cond.fieldLink "LinearRowsModel" 23 "LinearRowsModel" "made" "[J" ∈ wG := List.mem_filter.mpr ⟨List.mem_append_right _ (List.mem_append_right _ (List.mem_append_right _ (List.mem_append_left _ (List.mem_of_getElem? (i := 131) rfl)))), rfl⟩
theorem wm_3_132 : Cond.fieldLink "LinearRowsModel" 26 "LinearRowsModel" "point" "[J" ∈ wG := List.mem_filter.mpr ⟨List.mem_append_right _ (List.mem_append_right _ (List.mem_append_right _ (List.mem_append_left _ (List.mem_of_getElem? (i := 132) rfl)))), rfl⟩
theorem wm_3_133 : Cond.fieldLink "LinearRowsModel" 150 "LinearRowsModel" "needMany" "I" ∈ wG := List.mem_filter.mpr ⟨List.mem_append_right _ (List.mem_append_right _ (List.mem_append_right _ (List.mem_append_left _ (List.mem_of_getElem? (i := 133) rfl)))), rfl⟩
theorem wm_3_134 : Cond.fieldLink "LinearRowsModel" 29 "LinearRowsModel" "needA" "[I" ∈ wG := List.mem_filter.mpr ⟨List.mem_append_right _ (List.mem_append_right _ (List.mem_append_right _ (List.mem_append_left _ (List.mem_of_getElem? (i := 134) rfl)))), rfl⟩
theorem wm_3_135 : Cond.fieldLink "LinearRowsModel" 33 "LinearRowsModel" "needB" "[I" ∈ wG := List.mem_filter.mpr ⟨List.mem_append_right _ (List.mem_append_right _ (List.mem_append_right _ (List.mem_append_left _ (List.mem_of_getElem? (i := 135) rfl)))), rfl⟩
theorem wm_3_136 : Cond.fieldLink "LinearRowsModel" 36 "LinearRowsModel" "needC" "[J" ∈ wG := List.mem_filter.mpr ⟨List.mem_append_right _ (List.mem_append_right _ (List.mem_append_right _ (List.mem_append_left _ (List.mem_of_getElem? (i := 136) rfl)))), rfl⟩
theorem wm_3_137 : Cond.fieldLink "LinearRowsModel" 39 "LinearRowsModel" "isLeft" "[Z" ∈ wG := List.mem_filter.mpr ⟨List.mem_append_right _ (List.mem_append_right _ (List.mem_append_right _ (List.mem_append_left _ (List.mem_of_getElem? (i := 137) rfl)))), rfl⟩
theorem wm_3_138 : Cond.lays "LinearRowsModel" "LinearRowsModel" "thrown" "I" ∈ wG := List.mem_filter.mpr ⟨List.mem_append_right _ (List.mem_append_right _ (List.mem_append_right _ (List.mem_append_left _ (List.mem_of_getElem? (i := 138) rfl)))), rfl⟩
theorem wm_3_139 : Cond.soleField "LinearRowsModel" "thrown" ∈ wG := List.mem_filter.mpr ⟨List.mem_append_right _ (List.mem_append_right _ (List.mem_append_right _ (List.mem_append_left _ (List.mem_of_getElem? (i := 139) rfl)))), rfl⟩
theorem wm_3_140 : Cond.laysFinal "LinearRowsModel" "LinearRowsModel" "n" "I" ∈ wG := List.mem_filter.mpr ⟨List.mem_append_right _ (List.mem_append_right _ (List.mem_append_right _ (List.mem_append_left _ (List.mem_of_getElem? (i := 140) rfl)))), rfl⟩
theorem wm_3_141 : Cond.soleField "LinearRowsModel" "n" ∈ wG := List.mem_filter.mpr ⟨List.mem_append_right _ (List.mem_append_right _ (List.mem_append_right _ (List.mem_append_left _ (List.mem_of_getElem? (i := 141) rfl)))), rfl⟩
theorem wm_3_142 : Cond.laysFinal "LinearRowsModel" "LinearRowsModel" "rows" "[J" ∈ wG := List.mem_filter.mpr ⟨List.mem_append_right _ (List.mem_append_right _ (List.mem_append_right _ (List.mem_append_left _ (List.mem_of_getElem? (i := 142) rfl)))), rfl⟩
theorem wm_3_143 : Cond.soleField "LinearRowsModel" "rows" ∈ wG := List.mem_filter.mpr ⟨List.mem_append_right _ (List.mem_append_right _ (List.mem_append_right _ (List.mem_append_left _ (List.mem_of_getElem? (i := 143) rfl)))), rfl⟩
theorem wm_3_144 : Cond.laysFinal "LinearRowsModel" "LinearRowsModel" "isEmpty" "[Z" ∈ wG := List.mem_filter.mpr ⟨List.mem_append_right _ (List.mem_append_right _ (List.mem_append_right _ (List.mem_append_left _ (List.mem_of_getElem? (i := 144) rfl)))), rfl⟩
theorem wm_3_145 : Cond.soleField "LinearRowsModel" "isEmpty" ∈ wG := List.mem_filter.mpr ⟨List.mem_append_right _ (List.mem_append_right _ (List.mem_append_right _ (List.mem_append_left _ (List.mem_of_getElem? (i := 145) rfl)))), rfl⟩
theorem wm_3_146 : Cond.laysFinal "LinearRowsModel" "LinearRowsModel" "d" "[J" ∈ wG := List.mem_filter.mpr ⟨List.mem_append_right _ (List.mem_append_right _ (List.mem_append_right _ (List.mem_append_left _ (List.mem_of_getElem? (i := 146) rfl)))), rfl⟩
theorem wm_3_147 : Cond.soleField "LinearRowsModel" "d" ∈ wG := List.mem_filter.mpr ⟨List.mem_append_right _ (List.mem_append_right _ (List.mem_append_right _ (List.mem_append_left _ (List.mem_of_getElem? (i := 147) rfl)))), rfl⟩
theorem wm_3_148 : Cond.laysFinal "LinearRowsModel" "LinearRowsModel" "other" "[J" ∈ wG := List.mem_filter.mpr ⟨List.mem_append_right _ (List.mem_append_right _ (List.mem_append_right _ (List.mem_append_left _ (List.mem_of_getElem? (i := 148) rfl)))), rfl⟩
theorem wm_3_149 : Cond.soleField "LinearRowsModel" "other" ∈ wG := List.mem_filter.mpr ⟨List.mem_append_right _ (List.mem_append_right _ (List.mem_append_right _ (List.mem_append_left _ (List.mem_of_getElem? (i := 149) rfl)))), rfl⟩
theorem wm_3_150 : Cond.laysFinal "LinearRowsModel" "LinearRowsModel" "made" "[J" ∈ wG := List.mem_filter.mpr ⟨List.mem_append_right _ (List.mem_append_right _ (List.mem_append_right _ (List.mem_append_left _ (List.mem_of_getElem? (i := 150) rfl)))), rfl⟩
theorem wm_3_151 : Cond.soleField "LinearRowsModel" "made" ∈ wG := List.mem_filter.mpr ⟨List.mem_append_right _ (List.mem_append_right _ (List.mem_append_right _ (List.mem_append_left _ (List.mem_of_getElem? (i := 151) rfl)))), rfl⟩
theorem wm_3_152 : Cond.laysFinal "LinearRowsModel" "LinearRowsModel" "point" "[J" ∈ wG := List.mem_filter.mpr ⟨List.mem_append_right _ (List.mem_append_right _ (List.mem_append_right _ (List.mem_append_left _ (List.mem_of_getElem? (i := 152) rfl)))), rfl⟩
theorem wm_3_153 : Cond.soleField "LinearRowsModel" "point" ∈ wG := List.mem_filter.mpr ⟨List.mem_append_right _ (List.mem_append_right _ (List.mem_append_right _ (List.mem_append_left _ (List.mem_of_getElem? (i := 153) rfl)))), rfl⟩
theorem wm_3_154 : Cond.lays "LinearRowsModel" "LinearRowsModel" "needMany" "I" ∈ wG := List.mem_filter.mpr ⟨List.mem_append_right _ (List.mem_append_right _ (List.mem_append_right _ (List.mem_append_left _ (List.mem_of_getElem? (i := 154) rfl)))), rfl⟩
theorem wm_3_155 : Cond.soleField "LinearRowsModel" "needMany" ∈ wG := List.mem_filter.mpr ⟨List.mem_append_right _ (List.mem_append_right _ (List.mem_append_right _ (List.mem_append_left _ (List.mem_of_getElem? (i := 155) rfl)))), rfl⟩
theorem wm_3_156 : Cond.laysFinal "LinearRowsModel" "LinearRowsModel" "needA" "[I" ∈ wG := List.mem_filter.mpr ⟨List.mem_append_right _ (List.mem_append_right _ (List.mem_append_right _ (List.mem_append_left _ (List.mem_of_getElem? (i := 156) rfl)))), rfl⟩
theorem wm_3_157 : Cond.soleField "LinearRowsModel" "needA" ∈ wG := List.mem_filter.mpr ⟨List.mem_append_right _ (List.mem_append_right _ (List.mem_append_right _ (List.mem_append_left _ (List.mem_of_getElem? (i := 157) rfl)))), rfl⟩
theorem wm_3_158 : Cond.laysFinal "LinearRowsModel" "LinearRowsModel" "needB" "[I" ∈ wG := List.mem_filter.mpr ⟨List.mem_append_right _ (List.mem_append_right _ (List.mem_append_right _ (List.mem_append_left _ (List.mem_of_getElem? (i := 158) rfl)))), rfl⟩
theorem wm_3_159 : Cond.soleField "LinearRowsModel" "needB" ∈ wG := List.mem_filter.mpr ⟨List.mem_append_right _ (List.mem_append_right _ (List.mem_append_right _ (List.mem_append_left _ (List.mem_of_getElem? (i := 159) rfl)))), rfl⟩
theorem wm_3_160 : Cond.laysFinal "LinearRowsModel" "LinearRowsModel" "needC" "[J" ∈ wG := List.mem_filter.mpr ⟨List.mem_append_right _ (List.mem_append_right _ (List.mem_append_right _ (List.mem_append_left _ (List.mem_of_getElem? (i := 160) rfl)))), rfl⟩
theorem wm_3_161 : Cond.soleField "LinearRowsModel" "needC" ∈ wG := List.mem_filter.mpr ⟨List.mem_append_right _ (List.mem_append_right _ (List.mem_append_right _ (List.mem_append_left _ (List.mem_of_getElem? (i := 161) rfl)))), rfl⟩
theorem wm_3_162 : Cond.laysFinal "LinearRowsModel" "LinearRowsModel" "isLeft" "[Z" ∈ wG := List.mem_filter.mpr ⟨List.mem_append_right _ (List.mem_append_right _ (List.mem_append_right _ (List.mem_append_left _ (List.mem_of_getElem? (i := 162) rfl)))), rfl⟩
theorem wm_3_163 : Cond.soleField "LinearRowsModel" "isLeft" ∈ wG := List.mem_filter.mpr ⟨List.mem_append_right _ (List.mem_append_right _ (List.mem_append_right _ (List.mem_append_left _ (List.mem_of_getElem? (i := 163) rfl)))), rfl⟩
theorem wm_3_164 : Cond.superclass "LinearRowsModel" "java/lang/Object" ∈ wG := List.mem_filter.mpr ⟨List.mem_append_right _ (List.mem_append_right _ (List.mem_append_right _ (List.mem_append_left _ (List.mem_of_getElem? (i := 164) rfl)))), rfl⟩
theorem wm_3_165 : Cond.arrayClass FieldType.boolean ∈ wG := List.mem_filter.mpr ⟨List.mem_append_right _ (List.mem_append_right _ (List.mem_append_right _ (List.mem_append_left _ (List.mem_of_getElem? (i := 165) rfl)))), rfl⟩
theorem wm_3_166 : Cond.arrayClass FieldType.int ∈ wG := List.mem_filter.mpr ⟨List.mem_append_right _ (List.mem_append_right _ (List.mem_append_right _ (List.mem_append_left _ (List.mem_of_getElem? (i := 166) rfl)))), rfl⟩
theorem wm_3_167 : Cond.methodLink "LinearRowsLaw" 106 y_M_thrown ∈ wG := List.mem_filter.mpr ⟨List.mem_append_right _ (List.mem_append_right _ (List.mem_append_right _ (List.mem_append_left _ (List.mem_of_getElem? (i := 167) rfl)))), rfl⟩
theorem wm_3_168 : Cond.instanceMethod y_M_thrown ∈ wG := List.mem_filter.mpr ⟨List.mem_append_right _ (List.mem_append_right _ (List.mem_append_right _ (List.mem_append_left _ (List.mem_of_getElem? (i := 168) rfl)))), rfl⟩
theorem wm_3_169 : Cond.selects "LinearRowsModel" y_M_thrown y_M_thrown ∈ wG := List.mem_filter.mpr ⟨List.mem_append_right _ (List.mem_append_right _ (List.mem_append_right _ (List.mem_append_left _ (List.mem_of_getElem? (i := 169) rfl)))), rfl⟩
theorem wm_3_170 : Cond.code y_M_thrown b_M_thrown 1 (some .int) ∈ wG := List.mem_filter.mpr ⟨List.mem_append_right _ (List.mem_append_right _ (List.mem_append_right _ (List.mem_append_left _ (List.mem_of_getElem? (i := 170) rfl)))), rfl⟩
theorem wm_3_171 : Cond.methodLink "LinearRowsLaw" 105 y_M_all ∈ wG := List.mem_filter.mpr ⟨List.mem_append_right _ (List.mem_append_right _ (List.mem_append_right _ (List.mem_append_left _ (List.mem_of_getElem? (i := 171) rfl)))), rfl⟩
theorem wm_3_172 : Cond.instanceMethod y_M_all ∈ wG := List.mem_filter.mpr ⟨List.mem_append_right _ (List.mem_append_right _ (List.mem_append_right _ (List.mem_append_left _ (List.mem_of_getElem? (i := 172) rfl)))), rfl⟩
theorem wm_3_173 : Cond.selects "LinearRowsModel" y_M_all y_M_all ∈ wG := List.mem_filter.mpr ⟨List.mem_append_right _ (List.mem_append_right _ (List.mem_append_right _ (List.mem_append_left _ (List.mem_of_getElem? (i := 173) rfl)))), rfl⟩
theorem wm_3_174 : Cond.code y_M_all b_M_all 2 none ∈ wG := List.mem_filter.mpr ⟨List.mem_append_right _ (List.mem_append_right _ (List.mem_append_right _ (List.mem_append_left _ (List.mem_of_getElem? (i := 174) rfl)))), rfl⟩
theorem wm_3_175 : Cond.methodLink "LinearRowsModel" 83 y_M_isShape ∈ wG := List.mem_filter.mpr ⟨List.mem_append_right _ (List.mem_append_right _ (List.mem_append_right _ (List.mem_append_left _ (List.mem_of_getElem? (i := 175) rfl)))), rfl⟩
theorem wm_3_177 : Cond.instanceMethod y_M_isShape ∈ wG := List.mem_filter.mpr ⟨List.mem_append_right _ (List.mem_append_right _ (List.mem_append_right _ (List.mem_append_left _ (List.mem_of_getElem? (i := 177) rfl)))), rfl⟩
theorem wm_3_178 : Cond.code y_M_isShape b_M_isShape 2 (some .boolean) ∈ wG := List.mem_filter.mpr ⟨List.mem_append_right _ (List.mem_append_right _ (List.mem_append_right _ (List.mem_append_left _ (List.mem_of_getElem? (i := 178) rfl)))), rfl⟩
theorem wm_3_179 : Cond.methodLink "LinearRowsModel" 73 y_M_none ∈ wG := List.mem_filter.mpr ⟨List.mem_append_right _ (List.mem_append_right _ (List.mem_append_right _ (List.mem_append_left _ (List.mem_of_getElem? (i := 179) rfl)))), rfl⟩
theorem wm_3_181 : Cond.instanceMethod y_M_none ∈ wG := List.mem_filter.mpr ⟨List.mem_append_right _ (List.mem_append_right _ (List.mem_append_right _ (List.mem_append_left _ (List.mem_of_getElem? (i := 181) rfl)))), rfl⟩
theorem wm_3_182 : Cond.code y_M_none b_M_none 3 none ∈ wG := List.mem_filter.mpr ⟨List.mem_append_right _ (List.mem_append_right _ (List.mem_append_right _ (List.mem_append_left _ (List.mem_of_getElem? (i := 182) rfl)))), rfl⟩
theorem wm_3_183 : Cond.methodLink "LinearRowsLaw" 115 y_M_row ∈ wG := List.mem_filter.mpr ⟨List.mem_append_right _ (List.mem_append_right _ (List.mem_append_right _ (List.mem_append_left _ (List.mem_of_getElem? (i := 183) rfl)))), rfl⟩
theorem wm_3_184 : Cond.instanceMethod y_M_row ∈ wG := List.mem_filter.mpr ⟨List.mem_append_right _ (List.mem_append_right _ (List.mem_append_right _ (List.mem_append_left _ (List.mem_of_getElem? (i := 184) rfl)))), rfl⟩
theorem wm_3_185 : Cond.selects "LinearRowsModel" y_M_row y_M_row ∈ wG := List.mem_filter.mpr ⟨List.mem_append_right _ (List.mem_append_right _ (List.mem_append_right _ (List.mem_append_left _ (List.mem_of_getElem? (i := 185) rfl)))), rfl⟩
theorem wm_3_186 : Cond.code y_M_row b_M_row 12 (some .int) ∈ wG := List.mem_filter.mpr ⟨List.mem_append_right _ (List.mem_append_right _ (List.mem_append_right _ (List.mem_append_left _ (List.mem_of_getElem? (i := 186) rfl)))), rfl⟩
theorem wm_3_187 : Cond.methodLink "LinearRowsModel" 91 y_M_isTerm ∈ wG := List.mem_filter.mpr ⟨List.mem_append_right _ (List.mem_append_right _ (List.mem_append_right _ (List.mem_append_left _ (List.mem_of_getElem? (i := 187) rfl)))), rfl⟩
theorem wm_3_189 : Cond.instanceMethod y_M_isTerm ∈ wG := List.mem_filter.mpr ⟨List.mem_append_right _ (List.mem_append_right _ (List.mem_append_right _ (List.mem_append_left _ (List.mem_of_getElem? (i := 189) rfl)))), rfl⟩
theorem wm_3_190 : Cond.code y_M_isTerm b_M_isTerm 2 (some .boolean) ∈ wG := List.mem_filter.mpr ⟨List.mem_append_right _ (List.mem_append_right _ (List.mem_append_right _ (List.mem_append_left _ (List.mem_of_getElem? (i := 190) rfl)))), rfl⟩
theorem wm_3_191 : Cond.methodLink "LinearRowsModel" 94 y_M_isSmall ∈ wG := List.mem_filter.mpr ⟨List.mem_append_right _ (List.mem_append_right _ (List.mem_append_right _ (List.mem_append_left _ (List.mem_of_getElem? (i := 191) rfl)))), rfl⟩
theorem wm_3_192 : Cond.static y_M_isSmall ∈ wG := List.mem_filter.mpr ⟨List.mem_append_right _ (List.mem_append_right _ (List.mem_append_right _ (List.mem_append_left _ (List.mem_of_getElem? (i := 192) rfl)))), rfl⟩
theorem wm_3_193 : Cond.code y_M_isSmall b_M_isSmall 2 (some .boolean) ∈ wG := List.mem_filter.mpr ⟨List.mem_append_right _ (List.mem_append_right _ (List.mem_append_right _ (List.mem_append_left _ (List.mem_of_getElem? (i := 193) rfl)))), rfl⟩
theorem wm_3_194 : Cond.constantLong "LinearRowsModel" 87 (-1000000000) ∈ wG := List.mem_filter.mpr ⟨List.mem_append_right _ (List.mem_append_right _ (List.mem_append_right _ (List.mem_append_left _ (List.mem_of_getElem? (i := 194) rfl)))), rfl⟩
theorem wm_3_195 : Cond.constantLong "LinearRowsModel" 89 1000000000 ∈ wG := List.mem_filter.mpr ⟨List.mem_append_right _ (List.mem_append_right _ (List.mem_append_right _ (List.mem_append_left _ (List.mem_of_getElem? (i := 195) rfl)))), rfl⟩
theorem wm_3_196 : Cond.methodLink "LinearRowsModel" 80 y_M_at ∈ wG := List.mem_filter.mpr ⟨List.mem_append_right _ (List.mem_append_right _ (List.mem_append_right _ (List.mem_append_left _ (List.mem_of_getElem? (i := 196) rfl)))), rfl⟩
theorem wm_3_197 : Cond.static y_M_at ∈ wG := List.mem_filter.mpr ⟨List.mem_append_right _ (List.mem_append_right _ (List.mem_append_right _ (List.mem_append_left _ (List.mem_of_getElem? (i := 197) rfl)))), rfl⟩
theorem wm_3_198 : Cond.code y_M_at b_M_at 1 (some .int) ∈ wG := List.mem_filter.mpr ⟨List.mem_append_right _ (List.mem_append_right _ (List.mem_append_right _ (List.mem_append_left _ (List.mem_of_getElem? (i := 198) rfl)))), rfl⟩
theorem wm_3_199 : Cond.methodLink "LinearRowsModel" 61 y_M_half ∈ wG := List.mem_filter.mpr ⟨List.mem_append_right _ (List.mem_append_right _ (List.mem_append_right _ (List.mem_append_left _ (List.mem_of_getElem? (i := 199) rfl)))), rfl⟩
theorem wm_3_200 : Cond.static y_M_half ∈ wG := List.mem_filter.mpr ⟨List.mem_append_right _ (List.mem_append_right _ (List.mem_append_right _ (List.mem_append_left _ (List.mem_of_getElem? (i := 200) rfl)))), rfl⟩
theorem wm_3_201 : Cond.code y_M_half b_M_half 2 (some .long) ∈ wG := List.mem_filter.mpr ⟨List.mem_append_right _ (List.mem_append_right _ (List.mem_append_right _ (List.mem_append_left _ (List.mem_of_getElem? (i := 201) rfl)))), rfl⟩
theorem wm_3_202 : Cond.constantLong "LinearRowsModel" 51 2 ∈ wG := List.mem_filter.mpr ⟨List.mem_append_right _ (List.mem_append_right _ (List.mem_append_right _ (List.mem_append_left _ (List.mem_of_getElem? (i := 202) rfl)))), rfl⟩
theorem wm_3_203 : Cond.methodLink "LinearRowsModel" 98 y_M_closeShape ∈ wG := List.mem_filter.mpr ⟨List.mem_append_right _ (List.mem_append_right _ (List.mem_append_right _ (List.mem_append_left _ (List.mem_of_getElem? (i := 203) rfl)))), rfl⟩
theorem wm_3_205 : Cond.instanceMethod y_M_closeShape ∈ wG := List.mem_filter.mpr ⟨List.mem_append_right _ (List.mem_append_right _ (List.mem_append_right _ (List.mem_append_left _ (List.mem_of_getElem? (i := 205) rfl)))), rfl⟩
theorem wm_3_206 : Cond.code y_M_closeShape b_M_closeShape 2 (some .boolean) ∈ wG := List.mem_filter.mpr ⟨List.mem_append_right _ (List.mem_append_right _ (List.mem_append_right _ (List.mem_append_left _ (List.mem_of_getElem? (i := 206) rfl)))), rfl⟩
theorem wm_3_207 : Cond.methodLink "LinearRowsModel" 77 y_M_loadRows ∈ wG := List.mem_filter.mpr ⟨List.mem_append_right _ (List.mem_append_right _ (List.mem_append_right _ (List.mem_append_left _ (List.mem_of_getElem? (i := 207) rfl)))), rfl⟩
theorem wm_3_209 : Cond.instanceMethod y_M_loadRows ∈ wG := List.mem_filter.mpr ⟨List.mem_append_right _ (List.mem_append_right _ (List.mem_append_right _ (List.mem_append_left _ (List.mem_of_getElem? (i := 209) rfl)))), rfl⟩
theorem wm_3_210 : Cond.code y_M_loadRows b_M_loadRows 3 none ∈ wG := List.mem_filter.mpr ⟨List.mem_append_right _ (List.mem_append_right _ (List.mem_append_right _ (List.mem_append_left _ (List.mem_of_getElem? (i := 210) rfl)))), rfl⟩
theorem wm_3_211 : Cond.methodLink "LinearRowsModel" 69 y_M_close ∈ wG := List.mem_filter.mpr ⟨List.mem_append_right _ (List.mem_append_right _ (List.mem_append_right _ (List.mem_append_left _ (List.mem_of_getElem? (i := 211) rfl)))), rfl⟩
theorem wm_3_213 : Cond.instanceMethod y_M_close ∈ wG := List.mem_filter.mpr ⟨List.mem_append_right _ (List.mem_append_right _ (List.mem_append_right _ (List.mem_append_left _ (List.mem_of_getElem? (i := 213) rfl)))), rfl⟩
theorem wm_3_214 : Cond.code y_M_close b_M_close 8 (some .boolean) ∈ wG := List.mem_filter.mpr ⟨List.mem_append_right _ (List.mem_append_right _ (List.mem_append_right _ (List.mem_append_left _ (List.mem_of_getElem? (i := 214) rfl)))), rfl⟩
theorem wm_3_215 : Cond.methodLink "LinearRowsModel" 53 y_M_opposite ∈ wG := List.mem_filter.mpr ⟨List.mem_append_right _ (List.mem_append_right _ (List.mem_append_right _ (List.mem_append_left _ (List.mem_of_getElem? (i := 215) rfl)))), rfl⟩
theorem wm_3_216 : Cond.static y_M_opposite ∈ wG := List.mem_filter.mpr ⟨List.mem_append_right _ (List.mem_append_right _ (List.mem_append_right _ (List.mem_append_left _ (List.mem_of_getElem? (i := 216) rfl)))), rfl⟩
theorem wm_3_217 : Cond.code y_M_opposite b_M_opposite 1 (some .int) ∈ wG := List.mem_filter.mpr ⟨List.mem_append_right _ (List.mem_append_right _ (List.mem_append_right _ (List.mem_append_left _ (List.mem_of_getElem? (i := 217) rfl)))), rfl⟩
theorem wm_3_218 : Cond.methodLink "LinearRowsModel" 57 y_M_sum ∈ wG := List.mem_filter.mpr ⟨List.mem_append_right _ (List.mem_append_right _ (List.mem_append_right _ (List.mem_append_left _ (List.mem_of_getElem? (i := 218) rfl)))), rfl⟩
theorem wm_3_219 : Cond.static y_M_sum ∈ wG := List.mem_filter.mpr ⟨List.mem_append_right _ (List.mem_append_right _ (List.mem_append_right _ (List.mem_append_left _ (List.mem_of_getElem? (i := 219) rfl)))), rfl⟩
theorem wm_3_220 : Cond.code y_M_sum b_M_sum 4 (some .long) ∈ wG := List.mem_filter.mpr ⟨List.mem_append_right _ (List.mem_append_right _ (List.mem_append_right _ (List.mem_append_left _ (List.mem_of_getElem? (i := 220) rfl)))), rfl⟩
theorem wm_3_221 : Cond.methodLink "LinearRowsModel" 101 y_M_isFar ∈ wG := List.mem_filter.mpr ⟨List.mem_append_right _ (List.mem_append_right _ (List.mem_append_right _ (List.mem_append_left _ (List.mem_of_getElem? (i := 221) rfl)))), rfl⟩
theorem wm_3_223 : Cond.instanceMethod y_M_isFar ∈ wG := List.mem_filter.mpr ⟨List.mem_append_right _ (List.mem_append_right _ (List.mem_append_right _ (List.mem_append_left _ (List.mem_of_getElem? (i := 223) rfl)))), rfl⟩
theorem wm_3_224 : Cond.code y_M_isFar b_M_isFar 7 (some .boolean) ∈ wG := List.mem_filter.mpr ⟨List.mem_append_right _ (List.mem_append_right _ (List.mem_append_right _ (List.mem_append_left _ (List.mem_of_getElem? (i := 224) rfl)))), rfl⟩
theorem wm_3_225 : Cond.constantLong "LinearRowsModel" 65 1000000000000000 ∈ wG := List.mem_filter.mpr ⟨List.mem_append_right _ (List.mem_append_right _ (List.mem_append_right _ (List.mem_append_left _ (List.mem_of_getElem? (i := 225) rfl)))), rfl⟩
theorem wm_3_226 : Cond.constantLong "LinearRowsModel" 67 (-1000000000000000) ∈ wG := List.mem_filter.mpr ⟨List.mem_append_right _ (List.mem_append_right _ (List.mem_append_right _ (List.mem_append_left _ (List.mem_of_getElem? (i := 226) rfl)))), rfl⟩
theorem wm_3_227 : Cond.methodLink "LinearRowsLaw" 119 y_M_bound ∈ wG := List.mem_filter.mpr ⟨List.mem_append_right _ (List.mem_append_right _ (List.mem_append_right _ (List.mem_append_left _ (List.mem_of_getElem? (i := 227) rfl)))), rfl⟩
theorem wm_3_228 : Cond.instanceMethod y_M_bound ∈ wG := List.mem_filter.mpr ⟨List.mem_append_right _ (List.mem_append_right _ (List.mem_append_right _ (List.mem_append_left _ (List.mem_of_getElem? (i := 228) rfl)))), rfl⟩
theorem wm_3_229 : Cond.selects "LinearRowsModel" y_M_bound y_M_bound ∈ wG := List.mem_filter.mpr ⟨List.mem_append_right _ (List.mem_append_right _ (List.mem_append_right _ (List.mem_append_left _ (List.mem_of_getElem? (i := 229) rfl)))), rfl⟩
theorem wm_3_230 : Cond.code y_M_bound b_M_bound 4 (some .long) ∈ wG := List.mem_filter.mpr ⟨List.mem_append_right _ (List.mem_append_right _ (List.mem_append_right _ (List.mem_append_left _ (List.mem_of_getElem? (i := 230) rfl)))), rfl⟩
theorem wm_3_231 : Cond.methodLink "LinearRowsModel" 104 y_M_boundOf ∈ wG := List.mem_filter.mpr ⟨List.mem_append_right _ (List.mem_append_right _ (List.mem_append_right _ (List.mem_append_left _ (List.mem_of_getElem? (i := 231) rfl)))), rfl⟩
theorem wm_3_233 : Cond.instanceMethod y_M_boundOf ∈ wG := List.mem_filter.mpr ⟨List.mem_append_right _ (List.mem_append_right _ (List.mem_append_right _ (List.mem_append_left _ (List.mem_of_getElem? (i := 233) rfl)))), rfl⟩
theorem wm_3_234 : Cond.code y_M_boundOf b_M_boundOf 5 (some .long) ∈ wG := List.mem_filter.mpr ⟨List.mem_append_right _ (List.mem_append_right _ (List.mem_append_right _ (List.mem_append_left _ (List.mem_of_getElem? (i := 234) rfl)))), rfl⟩
theorem wm_3_235 : Cond.constantLong "LinearRowsModel" 108 (-4611686018427387904) ∈ wG := List.mem_filter.mpr ⟨List.mem_append_right _ (List.mem_append_right _ (List.mem_append_right _ (List.mem_append_left _ (List.mem_of_getElem? (i := 235) rfl)))), rfl⟩
theorem wm_3_236 : Cond.methodLink "LinearRowsLaw" 122 y_M_kept ∈ wG := List.mem_filter.mpr ⟨List.mem_append_right _ (List.mem_append_right _ (List.mem_append_right _ (List.mem_append_left _ (List.mem_of_getElem? (i := 236) rfl)))), rfl⟩
theorem wm_3_237 : Cond.instanceMethod y_M_kept ∈ wG := List.mem_filter.mpr ⟨List.mem_append_right _ (List.mem_append_right _ (List.mem_append_right _ (List.mem_append_left _ (List.mem_of_getElem? (i := 237) rfl)))), rfl⟩
theorem wm_3_238 : Cond.selects "LinearRowsModel" y_M_kept y_M_kept ∈ wG := List.mem_filter.mpr ⟨List.mem_append_right _ (List.mem_append_right _ (List.mem_append_right _ (List.mem_append_left _ (List.mem_of_getElem? (i := 238) rfl)))), rfl⟩
theorem wm_3_239 : Cond.code y_M_kept b_M_kept 4 (some .long) ∈ wG := List.mem_filter.mpr ⟨List.mem_append_right _ (List.mem_append_right _ (List.mem_append_right _ (List.mem_append_left _ (List.mem_of_getElem? (i := 239) rfl)))), rfl⟩
theorem wm_4_0 : Cond.methodLink "LinearRowsLaw" 125 y_M_meet ∈ wG := List.mem_filter.mpr ⟨List.mem_append_right _ (List.mem_append_right _ (List.mem_append_right _ (List.mem_append_right _ (List.mem_of_getElem? (i := 0) rfl)))), rfl⟩
theorem wm_4_1 : Cond.instanceMethod y_M_meet ∈ wG := List.mem_filter.mpr ⟨List.mem_append_right _ (List.mem_append_right _ (List.mem_append_right _ (List.mem_append_right _ (List.mem_of_getElem? (i := 1) rfl)))), rfl⟩
theorem wm_4_2 : Cond.selects "LinearRowsModel" y_M_meet y_M_meet ∈ wG := List.mem_filter.mpr ⟨List.mem_append_right _ (List.mem_append_right _ (List.mem_append_right _ (List.mem_append_right _ (List.mem_of_getElem? (i := 2) rfl)))), rfl⟩
theorem wm_4_3 : Cond.code y_M_meet b_M_meet 5 (some .int) ∈ wG := List.mem_filter.mpr ⟨List.mem_append_right _ (List.mem_append_right _ (List.mem_append_right _ (List.mem_append_right _ (List.mem_of_getElem? (i := 3) rfl)))), rfl⟩
theorem wm_4_4 : Cond.methodLink "LinearRowsModel" 110 y_M_areShapes ∈ wG := List.mem_filter.mpr ⟨List.mem_append_right _ (List.mem_append_right _ (List.mem_append_right _ (List.mem_append_right _ (List.mem_of_getElem? (i := 4) rfl)))), rfl⟩
theorem wm_4_6 : Cond.instanceMethod y_M_areShapes ∈ wG := List.mem_filter.mpr ⟨List.mem_append_right _ (List.mem_append_right _ (List.mem_append_right _ (List.mem_append_right _ (List.mem_of_getElem? (i := 6) rfl)))), rfl⟩
theorem wm_4_7 : Cond.code y_M_areShapes b_M_areShapes 4 (some .boolean) ∈ wG := List.mem_filter.mpr ⟨List.mem_append_right _ (List.mem_append_right _ (List.mem_append_right _ (List.mem_append_right _ (List.mem_of_getElem? (i := 7) rfl)))), rfl⟩
theorem wm_4_8 : Cond.methodLink "LinearRowsModel" 114 y_M_keepClosed ∈ wG := List.mem_filter.mpr ⟨List.mem_append_right _ (List.mem_append_right _ (List.mem_append_right _ (List.mem_append_right _ (List.mem_of_getElem? (i := 8) rfl)))), rfl⟩
theorem wm_4_10 : Cond.instanceMethod y_M_keepClosed ∈ wG := List.mem_filter.mpr ⟨List.mem_append_right _ (List.mem_append_right _ (List.mem_append_right _ (List.mem_append_right _ (List.mem_of_getElem? (i := 10) rfl)))), rfl⟩
theorem wm_4_11 : Cond.code y_M_keepClosed b_M_keepClosed 7 (some .int) ∈ wG := List.mem_filter.mpr ⟨List.mem_append_right _ (List.mem_append_right _ (List.mem_append_right _ (List.mem_append_right _ (List.mem_of_getElem? (i := 11) rfl)))), rfl⟩
theorem wm_4_12 : Cond.methodLink "LinearRowsModel" 118 y_M_copyTable ∈ wG := List.mem_filter.mpr ⟨List.mem_append_right _ (List.mem_append_right _ (List.mem_append_right _ (List.mem_append_right _ (List.mem_of_getElem? (i := 12) rfl)))), rfl⟩
theorem wm_4_14 : Cond.instanceMethod y_M_copyTable ∈ wG := List.mem_filter.mpr ⟨List.mem_append_right _ (List.mem_append_right _ (List.mem_append_right _ (List.mem_append_right _ (List.mem_of_getElem? (i := 14) rfl)))), rfl⟩
theorem wm_4_15 : Cond.code y_M_copyTable b_M_copyTable 3 none ∈ wG := List.mem_filter.mpr ⟨List.mem_append_right _ (List.mem_append_right _ (List.mem_append_right _ (List.mem_append_right _ (List.mem_of_getElem? (i := 15) rfl)))), rfl⟩
theorem wm_4_16 : Cond.methodLink "LinearRowsLaw" 128 y_M_join ∈ wG := List.mem_filter.mpr ⟨List.mem_append_right _ (List.mem_append_right _ (List.mem_append_right _ (List.mem_append_right _ (List.mem_of_getElem? (i := 16) rfl)))), rfl⟩
theorem wm_4_17 : Cond.instanceMethod y_M_join ∈ wG := List.mem_filter.mpr ⟨List.mem_append_right _ (List.mem_append_right _ (List.mem_append_right _ (List.mem_append_right _ (List.mem_of_getElem? (i := 17) rfl)))), rfl⟩
theorem wm_4_18 : Cond.selects "LinearRowsModel" y_M_join y_M_join ∈ wG := List.mem_filter.mpr ⟨List.mem_append_right _ (List.mem_append_right _ (List.mem_append_right _ (List.mem_append_right _ (List.mem_of_getElem? (i := 18) rfl)))), rfl⟩
theorem wm_4_19 : Cond.code y_M_join b_M_join 7 (some .int) ∈ wG := List.mem_filter.mpr ⟨List.mem_append_right _ (List.mem_append_right _ (List.mem_append_right _ (List.mem_append_right _ (List.mem_of_getElem? (i := 19) rfl)))), rfl⟩
theorem wm_4_20 : Cond.methodLink "LinearRowsLaw" 131 y_M_widen ∈ wG := List.mem_filter.mpr ⟨List.mem_append_right _ (List.mem_append_right _ (List.mem_append_right _ (List.mem_append_right _ (List.mem_of_getElem? (i := 20) rfl)))), rfl⟩
theorem wm_4_21 : Cond.instanceMethod y_M_widen ∈ wG := List.mem_filter.mpr ⟨List.mem_append_right _ (List.mem_append_right _ (List.mem_append_right _ (List.mem_append_right _ (List.mem_of_getElem? (i := 21) rfl)))), rfl⟩
theorem wm_4_22 : Cond.selects "LinearRowsModel" y_M_widen y_M_widen ∈ wG := List.mem_filter.mpr ⟨List.mem_append_right _ (List.mem_append_right _ (List.mem_append_right _ (List.mem_append_right _ (List.mem_of_getElem? (i := 22) rfl)))), rfl⟩
theorem wm_4_23 : Cond.code y_M_widen b_M_widen 11 (some .int) ∈ wG := List.mem_filter.mpr ⟨List.mem_append_right _ (List.mem_append_right _ (List.mem_append_right _ (List.mem_append_right _ (List.mem_of_getElem? (i := 23) rfl)))), rfl⟩
theorem wm_4_24 : Cond.methodLink "LinearRowsModel" 122 y_M_copyRows ∈ wG := List.mem_filter.mpr ⟨List.mem_append_right _ (List.mem_append_right _ (List.mem_append_right _ (List.mem_append_right _ (List.mem_of_getElem? (i := 24) rfl)))), rfl⟩
theorem wm_4_26 : Cond.instanceMethod y_M_copyRows ∈ wG := List.mem_filter.mpr ⟨List.mem_append_right _ (List.mem_append_right _ (List.mem_append_right _ (List.mem_append_right _ (List.mem_of_getElem? (i := 26) rfl)))), rfl⟩
theorem wm_4_27 : Cond.code y_M_copyRows b_M_copyRows 4 none ∈ wG := List.mem_filter.mpr ⟨List.mem_append_right _ (List.mem_append_right _ (List.mem_append_right _ (List.mem_append_right _ (List.mem_of_getElem? (i := 27) rfl)))), rfl⟩
theorem wm_4_28 : Cond.methodLink "LinearRowsModel" 126 y_M_closeMade ∈ wG := List.mem_filter.mpr ⟨List.mem_append_right _ (List.mem_append_right _ (List.mem_append_right _ (List.mem_append_right _ (List.mem_of_getElem? (i := 28) rfl)))), rfl⟩
theorem wm_4_30 : Cond.instanceMethod y_M_closeMade ∈ wG := List.mem_filter.mpr ⟨List.mem_append_right _ (List.mem_append_right _ (List.mem_append_right _ (List.mem_append_right _ (List.mem_of_getElem? (i := 30) rfl)))), rfl⟩
theorem wm_4_31 : Cond.code y_M_closeMade b_M_closeMade 5 (some .boolean) ∈ wG := List.mem_filter.mpr ⟨List.mem_append_right _ (List.mem_append_right _ (List.mem_append_right _ (List.mem_append_right _ (List.mem_of_getElem? (i := 31) rfl)))), rfl⟩
theorem wm_4_32 : Cond.methodLink "LinearRowsModel" 129 y_M_keepMade ∈ wG := List.mem_filter.mpr ⟨List.mem_append_right _ (List.mem_append_right _ (List.mem_append_right _ (List.mem_append_right _ (List.mem_of_getElem? (i := 32) rfl)))), rfl⟩
theorem wm_4_34 : Cond.instanceMethod y_M_keepMade ∈ wG := List.mem_filter.mpr ⟨List.mem_append_right _ (List.mem_append_right _ (List.mem_append_right _ (List.mem_append_right _ (List.mem_of_getElem? (i := 34) rfl)))), rfl⟩
theorem wm_4_35 : Cond.code y_M_keepMade b_M_keepMade 4 none ∈ wG := List.mem_filter.mpr ⟨List.mem_append_right _ (List.mem_append_right _ (List.mem_append_right _ (List.mem_append_right _ (List.mem_of_getElem? (i := 35) rfl)))), rfl⟩
theorem wm_4_36 : Cond.methodLink "LinearRowsLaw" 134 y_M_narrow ∈ wG := List.mem_filter.mpr ⟨List.mem_append_right _ (List.mem_append_right _ (List.mem_append_right _ (List.mem_append_right _ (List.mem_of_getElem? (i := 36) rfl)))), rfl⟩
theorem wm_4_37 : Cond.instanceMethod y_M_narrow ∈ wG := List.mem_filter.mpr ⟨List.mem_append_right _ (List.mem_append_right _ (List.mem_append_right _ (List.mem_append_right _ (List.mem_of_getElem? (i := 37) rfl)))), rfl⟩
theorem wm_4_38 : Cond.selects "LinearRowsModel" y_M_narrow y_M_narrow ∈ wG := List.mem_filter.mpr ⟨List.mem_append_right _ (List.mem_append_right _ (List.mem_append_right _ (List.mem_append_right _ (List.mem_of_getElem? (i := 38) rfl)))), rfl⟩
theorem wm_4_39 : Cond.code y_M_narrow b_M_narrow 12 (some .int) ∈ wG := List.mem_filter.mpr ⟨List.mem_append_right _ (List.mem_append_right _ (List.mem_append_right _ (List.mem_append_right _ (List.mem_of_getElem? (i := 39) rfl)))), rfl⟩
theorem wm_4_40 : Cond.methodLink "LinearRowsLaw" 138 y_M_copy ∈ wG := List.mem_filter.mpr ⟨List.mem_append_right _ (List.mem_append_right _ (List.mem_append_right _ (List.mem_append_right _ (List.mem_of_getElem? (i := 40) rfl)))), rfl⟩
theorem wm_4_41 : Cond.instanceMethod y_M_copy ∈ wG := List.mem_filter.mpr ⟨List.mem_append_right _ (List.mem_append_right _ (List.mem_append_right _ (List.mem_append_right _ (List.mem_of_getElem? (i := 41) rfl)))), rfl⟩
theorem wm_4_42 : Cond.selects "LinearRowsModel" y_M_copy y_M_copy ∈ wG := List.mem_filter.mpr ⟨List.mem_append_right _ (List.mem_append_right _ (List.mem_append_right _ (List.mem_append_right _ (List.mem_of_getElem? (i := 42) rfl)))), rfl⟩
theorem wm_4_43 : Cond.code y_M_copy b_M_copy 3 none ∈ wG := List.mem_filter.mpr ⟨List.mem_append_right _ (List.mem_append_right _ (List.mem_append_right _ (List.mem_append_right _ (List.mem_of_getElem? (i := 43) rfl)))), rfl⟩
theorem wm_4_44 : Cond.methodLink "LinearRowsLaw" 141 y_M_set ∈ wG := List.mem_filter.mpr ⟨List.mem_append_right _ (List.mem_append_right _ (List.mem_append_right _ (List.mem_append_right _ (List.mem_of_getElem? (i := 44) rfl)))), rfl⟩
theorem wm_4_45 : Cond.instanceMethod y_M_set ∈ wG := List.mem_filter.mpr ⟨List.mem_append_right _ (List.mem_append_right _ (List.mem_append_right _ (List.mem_append_right _ (List.mem_of_getElem? (i := 45) rfl)))), rfl⟩
theorem wm_4_46 : Cond.selects "LinearRowsModel" y_M_set y_M_set ∈ wG := List.mem_filter.mpr ⟨List.mem_append_right _ (List.mem_append_right _ (List.mem_append_right _ (List.mem_append_right _ (List.mem_of_getElem? (i := 46) rfl)))), rfl⟩
theorem wm_4_47 : Cond.code y_M_set b_M_set 7 (some .int) ∈ wG := List.mem_filter.mpr ⟨List.mem_append_right _ (List.mem_append_right _ (List.mem_append_right _ (List.mem_append_right _ (List.mem_of_getElem? (i := 47) rfl)))), rfl⟩
theorem wm_4_48 : Cond.methodLink "LinearRowsModel" 132 y_M_isName ∈ wG := List.mem_filter.mpr ⟨List.mem_append_right _ (List.mem_append_right _ (List.mem_append_right _ (List.mem_append_right _ (List.mem_of_getElem? (i := 48) rfl)))), rfl⟩
theorem wm_4_50 : Cond.instanceMethod y_M_isName ∈ wG := List.mem_filter.mpr ⟨List.mem_append_right _ (List.mem_append_right _ (List.mem_append_right _ (List.mem_append_right _ (List.mem_of_getElem? (i := 50) rfl)))), rfl⟩
theorem wm_4_51 : Cond.code y_M_isName b_M_isName 2 (some .boolean) ∈ wG := List.mem_filter.mpr ⟨List.mem_append_right _ (List.mem_append_right _ (List.mem_append_right _ (List.mem_append_right _ (List.mem_of_getElem? (i := 51) rfl)))), rfl⟩
theorem wm_4_52 : Cond.methodLink "LinearRowsModel" 135 y_M_turn ∈ wG := List.mem_filter.mpr ⟨List.mem_append_right _ (List.mem_append_right _ (List.mem_append_right _ (List.mem_append_right _ (List.mem_of_getElem? (i := 52) rfl)))), rfl⟩
theorem wm_4_54 : Cond.instanceMethod y_M_turn ∈ wG := List.mem_filter.mpr ⟨List.mem_append_right _ (List.mem_append_right _ (List.mem_append_right _ (List.mem_append_right _ (List.mem_of_getElem? (i := 54) rfl)))), rfl⟩
theorem wm_4_55 : Cond.code y_M_turn b_M_turn 12 none ∈ wG := List.mem_filter.mpr ⟨List.mem_append_right _ (List.mem_append_right _ (List.mem_append_right _ (List.mem_append_right _ (List.mem_of_getElem? (i := 55) rfl)))), rfl⟩
theorem wm_4_56 : Cond.methodLink "LinearRowsModel" 139 y_M_drop ∈ wG := List.mem_filter.mpr ⟨List.mem_append_right _ (List.mem_append_right _ (List.mem_append_right _ (List.mem_append_right _ (List.mem_of_getElem? (i := 56) rfl)))), rfl⟩
theorem wm_4_58 : Cond.instanceMethod y_M_drop ∈ wG := List.mem_filter.mpr ⟨List.mem_append_right _ (List.mem_append_right _ (List.mem_append_right _ (List.mem_append_right _ (List.mem_of_getElem? (i := 58) rfl)))), rfl⟩
theorem wm_4_59 : Cond.code y_M_drop b_M_drop 4 none ∈ wG := List.mem_filter.mpr ⟨List.mem_append_right _ (List.mem_append_right _ (List.mem_append_right _ (List.mem_append_right _ (List.mem_of_getElem? (i := 59) rfl)))), rfl⟩
theorem wm_4_60 : Cond.methodLink "LinearRowsModel" 142 y_M_addRow ∈ wG := List.mem_filter.mpr ⟨List.mem_append_right _ (List.mem_append_right _ (List.mem_append_right _ (List.mem_append_right _ (List.mem_of_getElem? (i := 60) rfl)))), rfl⟩
theorem wm_4_62 : Cond.instanceMethod y_M_addRow ∈ wG := List.mem_filter.mpr ⟨List.mem_append_right _ (List.mem_append_right _ (List.mem_append_right _ (List.mem_append_right _ (List.mem_of_getElem? (i := 62) rfl)))), rfl⟩
theorem wm_4_63 : Cond.code y_M_addRow b_M_addRow 9 none ∈ wG := List.mem_filter.mpr ⟨List.mem_append_right _ (List.mem_append_right _ (List.mem_append_right _ (List.mem_append_right _ (List.mem_of_getElem? (i := 63) rfl)))), rfl⟩
theorem wm_4_64 : Cond.methodLink "LinearRowsLaw" 145 y_M_forget ∈ wG := List.mem_filter.mpr ⟨List.mem_append_right _ (List.mem_append_right _ (List.mem_append_right _ (List.mem_append_right _ (List.mem_of_getElem? (i := 64) rfl)))), rfl⟩
theorem wm_4_65 : Cond.instanceMethod y_M_forget ∈ wG := List.mem_filter.mpr ⟨List.mem_append_right _ (List.mem_append_right _ (List.mem_append_right _ (List.mem_append_right _ (List.mem_of_getElem? (i := 65) rfl)))), rfl⟩
theorem wm_4_66 : Cond.selects "LinearRowsModel" y_M_forget y_M_forget ∈ wG := List.mem_filter.mpr ⟨List.mem_append_right _ (List.mem_append_right _ (List.mem_append_right _ (List.mem_append_right _ (List.mem_of_getElem? (i := 66) rfl)))), rfl⟩
theorem wm_4_67 : Cond.code y_M_forget b_M_forget 3 (some .int) ∈ wG := List.mem_filter.mpr ⟨List.mem_append_right _ (List.mem_append_right _ (List.mem_append_right _ (List.mem_append_right _ (List.mem_of_getElem? (i := 67) rfl)))), rfl⟩
theorem wm_4_68 : Cond.methodLink "LinearRowsLaw" 148 y_M_within ∈ wG := List.mem_filter.mpr ⟨List.mem_append_right _ (List.mem_append_right _ (List.mem_append_right _ (List.mem_append_right _ (List.mem_of_getElem? (i := 68) rfl)))), rfl⟩
theorem wm_4_69 : Cond.instanceMethod y_M_within ∈ wG := List.mem_filter.mpr ⟨List.mem_append_right _ (List.mem_append_right _ (List.mem_append_right _ (List.mem_append_right _ (List.mem_of_getElem? (i := 69) rfl)))), rfl⟩
theorem wm_4_70 : Cond.selects "LinearRowsModel" y_M_within y_M_within ∈ wG := List.mem_filter.mpr ⟨List.mem_append_right _ (List.mem_append_right _ (List.mem_append_right _ (List.mem_append_right _ (List.mem_of_getElem? (i := 70) rfl)))), rfl⟩
theorem wm_4_71 : Cond.code y_M_within b_M_within 10 (some .boolean) ∈ wG := List.mem_filter.mpr ⟨List.mem_append_right _ (List.mem_append_right _ (List.mem_append_right _ (List.mem_append_right _ (List.mem_of_getElem? (i := 71) rfl)))), rfl⟩
theorem wm_4_72 : Cond.methodLink "LinearRowsLaw" 152 y_M_put ∈ wG := List.mem_filter.mpr ⟨List.mem_append_right _ (List.mem_append_right _ (List.mem_append_right _ (List.mem_append_right _ (List.mem_of_getElem? (i := 72) rfl)))), rfl⟩
theorem wm_4_73 : Cond.instanceMethod y_M_put ∈ wG := List.mem_filter.mpr ⟨List.mem_append_right _ (List.mem_append_right _ (List.mem_append_right _ (List.mem_append_right _ (List.mem_of_getElem? (i := 73) rfl)))), rfl⟩
theorem wm_4_74 : Cond.selects "LinearRowsModel" y_M_put y_M_put ∈ wG := List.mem_filter.mpr ⟨List.mem_append_right _ (List.mem_append_right _ (List.mem_append_right _ (List.mem_append_right _ (List.mem_of_getElem? (i := 74) rfl)))), rfl⟩
theorem wm_4_75 : Cond.code y_M_put b_M_put 6 (some .long) ∈ wG := List.mem_filter.mpr ⟨List.mem_append_right _ (List.mem_append_right _ (List.mem_append_right _ (List.mem_append_right _ (List.mem_of_getElem? (i := 75) rfl)))), rfl⟩
theorem wm_4_76 : Cond.methodLink "LinearRowsLaw" 156 y_M_point ∈ wG := List.mem_filter.mpr ⟨List.mem_append_right _ (List.mem_append_right _ (List.mem_append_right _ (List.mem_append_right _ (List.mem_of_getElem? (i := 76) rfl)))), rfl⟩
theorem wm_4_77 : Cond.instanceMethod y_M_point ∈ wG := List.mem_filter.mpr ⟨List.mem_append_right _ (List.mem_append_right _ (List.mem_append_right _ (List.mem_append_right _ (List.mem_of_getElem? (i := 77) rfl)))), rfl⟩
theorem wm_4_78 : Cond.selects "LinearRowsModel" y_M_point y_M_point ∈ wG := List.mem_filter.mpr ⟨List.mem_append_right _ (List.mem_append_right _ (List.mem_append_right _ (List.mem_append_right _ (List.mem_of_getElem? (i := 78) rfl)))), rfl⟩
theorem wm_4_79 : Cond.code y_M_point b_M_point 2 (some .long) ∈ wG := List.mem_filter.mpr ⟨List.mem_append_right _ (List.mem_append_right _ (List.mem_append_right _ (List.mem_append_right _ (List.mem_of_getElem? (i := 79) rfl)))), rfl⟩
theorem wm_4_80 : Cond.methodLink "LinearRowsLaw" 159 y_M_has ∈ wG := List.mem_filter.mpr ⟨List.mem_append_right _ (List.mem_append_right _ (List.mem_append_right _ (List.mem_append_right _ (List.mem_of_getElem? (i := 80) rfl)))), rfl⟩
theorem wm_4_81 : Cond.instanceMethod y_M_has ∈ wG := List.mem_filter.mpr ⟨List.mem_append_right _ (List.mem_append_right _ (List.mem_append_right _ (List.mem_append_right _ (List.mem_of_getElem? (i := 81) rfl)))), rfl⟩
theorem wm_4_82 : Cond.selects "LinearRowsModel" y_M_has y_M_has ∈ wG := List.mem_filter.mpr ⟨List.mem_append_right _ (List.mem_append_right _ (List.mem_append_right _ (List.mem_append_right _ (List.mem_of_getElem? (i := 82) rfl)))), rfl⟩
theorem wm_4_83 : Cond.code y_M_has b_M_has 7 (some .boolean) ∈ wG := List.mem_filter.mpr ⟨List.mem_append_right _ (List.mem_append_right _ (List.mem_append_right _ (List.mem_append_right _ (List.mem_of_getElem? (i := 83) rfl)))), rfl⟩
theorem wm_4_84 : Cond.methodLink "LinearRowsModel" 146 y_M_valueAt ∈ wG := List.mem_filter.mpr ⟨List.mem_append_right _ (List.mem_append_right _ (List.mem_append_right _ (List.mem_append_right _ (List.mem_of_getElem? (i := 84) rfl)))), rfl⟩
theorem wm_4_86 : Cond.instanceMethod y_M_valueAt ∈ wG := List.mem_filter.mpr ⟨List.mem_append_right _ (List.mem_append_right _ (List.mem_append_right _ (List.mem_append_right _ (List.mem_of_getElem? (i := 86) rfl)))), rfl⟩
theorem wm_4_87 : Cond.code y_M_valueAt b_M_valueAt 2 (some .long) ∈ wG := List.mem_filter.mpr ⟨List.mem_append_right _ (List.mem_append_right _ (List.mem_append_right _ (List.mem_append_right _ (List.mem_of_getElem? (i := 87) rfl)))), rfl⟩
theorem wm_4_88 : Cond.methodLink "LinearRowsLaw" 162 y_M_sample ∈ wG := List.mem_filter.mpr ⟨List.mem_append_right _ (List.mem_append_right _ (List.mem_append_right _ (List.mem_append_right _ (List.mem_of_getElem? (i := 88) rfl)))), rfl⟩
theorem wm_4_89 : Cond.instanceMethod y_M_sample ∈ wG := List.mem_filter.mpr ⟨List.mem_append_right _ (List.mem_append_right _ (List.mem_append_right _ (List.mem_append_right _ (List.mem_of_getElem? (i := 89) rfl)))), rfl⟩
theorem wm_4_90 : Cond.selects "LinearRowsModel" y_M_sample y_M_sample ∈ wG := List.mem_filter.mpr ⟨List.mem_append_right _ (List.mem_append_right _ (List.mem_append_right _ (List.mem_append_right _ (List.mem_of_getElem? (i := 90) rfl)))), rfl⟩
theorem wm_4_91 : Cond.code y_M_sample b_M_sample 8 (some .boolean) ∈ wG := List.mem_filter.mpr ⟨List.mem_append_right _ (List.mem_append_right _ (List.mem_append_right _ (List.mem_append_right _ (List.mem_of_getElem? (i := 91) rfl)))), rfl⟩
theorem wm_4_92 : Cond.methodLink "LinearRowsLaw" 165 y_M_needed ∈ wG := List.mem_filter.mpr ⟨List.mem_append_right _ (List.mem_append_right _ (List.mem_append_right _ (List.mem_append_right _ (List.mem_of_getElem? (i := 92) rfl)))), rfl⟩
theorem wm_4_93 : Cond.instanceMethod y_M_needed ∈ wG := List.mem_filter.mpr ⟨List.mem_append_right _ (List.mem_append_right _ (List.mem_append_right _ (List.mem_append_right _ (List.mem_of_getElem? (i := 93) rfl)))), rfl⟩
theorem wm_4_94 : Cond.selects "LinearRowsModel" y_M_needed y_M_needed ∈ wG := List.mem_filter.mpr ⟨List.mem_append_right _ (List.mem_append_right _ (List.mem_append_right _ (List.mem_append_right _ (List.mem_of_getElem? (i := 94) rfl)))), rfl⟩
theorem wm_4_95 : Cond.code y_M_needed b_M_needed 4 (some .int) ∈ wG := List.mem_filter.mpr ⟨List.mem_append_right _ (List.mem_append_right _ (List.mem_append_right _ (List.mem_append_right _ (List.mem_of_getElem? (i := 95) rfl)))), rfl⟩
theorem wm_4_96 : Cond.constantLong "LinearRowsModel" 153 (-1) ∈ wG := List.mem_filter.mpr ⟨List.mem_append_right _ (List.mem_append_right _ (List.mem_append_right _ (List.mem_append_right _ (List.mem_of_getElem? (i := 96) rfl)))), rfl⟩
theorem wm_4_97 : Cond.methodLink "LinearRowsModel" 155 y_M_termOf ∈ wG := List.mem_filter.mpr ⟨List.mem_append_right _ (List.mem_append_right _ (List.mem_append_right _ (List.mem_append_right _ (List.mem_of_getElem? (i := 97) rfl)))), rfl⟩
theorem wm_4_98 : Cond.static y_M_termOf ∈ wG := List.mem_filter.mpr ⟨List.mem_append_right _ (List.mem_append_right _ (List.mem_append_right _ (List.mem_append_right _ (List.mem_of_getElem? (i := 98) rfl)))), rfl⟩
theorem wm_4_99 : Cond.code y_M_termOf b_M_termOf 1 (some .int) ∈ wG := List.mem_filter.mpr ⟨List.mem_append_right _ (List.mem_append_right _ (List.mem_append_right _ (List.mem_append_right _ (List.mem_of_getElem? (i := 99) rfl)))), rfl⟩
theorem wm_4_100 : Cond.methodLink "LinearRowsModel" 158 y_M_listRow ∈ wG := List.mem_filter.mpr ⟨List.mem_append_right _ (List.mem_append_right _ (List.mem_append_right _ (List.mem_append_right _ (List.mem_of_getElem? (i := 100) rfl)))), rfl⟩
theorem wm_4_102 : Cond.instanceMethod y_M_listRow ∈ wG := List.mem_filter.mpr ⟨List.mem_append_right _ (List.mem_append_right _ (List.mem_append_right _ (List.mem_append_right _ (List.mem_of_getElem? (i := 102) rfl)))), rfl⟩
theorem wm_4_103 : Cond.code y_M_listRow b_M_listRow 5 none ∈ wG := List.mem_filter.mpr ⟨List.mem_append_right _ (List.mem_append_right _ (List.mem_append_right _ (List.mem_append_right _ (List.mem_of_getElem? (i := 103) rfl)))), rfl⟩
theorem wm_4_104 : Cond.methodLink "LinearRowsLaw" 168 y_M_needs ∈ wG := List.mem_filter.mpr ⟨List.mem_append_right _ (List.mem_append_right _ (List.mem_append_right _ (List.mem_append_right _ (List.mem_of_getElem? (i := 104) rfl)))), rfl⟩
theorem wm_4_105 : Cond.instanceMethod y_M_needs ∈ wG := List.mem_filter.mpr ⟨List.mem_append_right _ (List.mem_append_right _ (List.mem_append_right _ (List.mem_append_right _ (List.mem_of_getElem? (i := 105) rfl)))), rfl⟩
theorem wm_4_106 : Cond.selects "LinearRowsModel" y_M_needs y_M_needs ∈ wG := List.mem_filter.mpr ⟨List.mem_append_right _ (List.mem_append_right _ (List.mem_append_right _ (List.mem_append_right _ (List.mem_of_getElem? (i := 106) rfl)))), rfl⟩
theorem wm_4_107 : Cond.code y_M_needs b_M_needs 3 (some .long) ∈ wG := List.mem_filter.mpr ⟨List.mem_append_right _ (List.mem_append_right _ (List.mem_append_right _ (List.mem_append_right _ (List.mem_of_getElem? (i := 107) rfl)))), rfl⟩
theorem wm_4_108 : Cond.methodLink "LinearRowsLaw" 171 y_M_fits ∈ wG := List.mem_filter.mpr ⟨List.mem_append_right _ (List.mem_append_right _ (List.mem_append_right _ (List.mem_append_right _ (List.mem_of_getElem? (i := 108) rfl)))), rfl⟩
theorem wm_4_109 : Cond.instanceMethod y_M_fits ∈ wG := List.mem_filter.mpr ⟨List.mem_append_right _ (List.mem_append_right _ (List.mem_append_right _ (List.mem_append_right _ (List.mem_of_getElem? (i := 109) rfl)))), rfl⟩
theorem wm_4_110 : Cond.selects "LinearRowsModel" y_M_fits y_M_fits ∈ wG := List.mem_filter.mpr ⟨List.mem_append_right _ (List.mem_append_right _ (List.mem_append_right _ (List.mem_append_right _ (List.mem_of_getElem? (i := 110) rfl)))), rfl⟩
theorem wm_4_111 : Cond.code y_M_fits b_M_fits 6 (some .boolean) ∈ wG := List.mem_filter.mpr ⟨List.mem_append_right _ (List.mem_append_right _ (List.mem_append_right _ (List.mem_append_right _ (List.mem_of_getElem? (i := 111) rfl)))), rfl⟩
theorem wm_4_112 : Cond.methodLink "LinearRowsLaw" 174 y_M_array ∈ wG := List.mem_filter.mpr ⟨List.mem_append_right _ (List.mem_append_right _ (List.mem_append_right _ (List.mem_append_right _ (List.mem_of_getElem? (i := 112) rfl)))), rfl⟩
theorem wm_4_113 : Cond.instanceMethod y_M_array ∈ wG := List.mem_filter.mpr ⟨List.mem_append_right _ (List.mem_append_right _ (List.mem_append_right _ (List.mem_append_right _ (List.mem_of_getElem? (i := 113) rfl)))), rfl⟩
theorem wm_4_114 : Cond.selects "LinearRowsModel" y_M_array y_M_array ∈ wG := List.mem_filter.mpr ⟨List.mem_append_right _ (List.mem_append_right _ (List.mem_append_right _ (List.mem_append_right _ (List.mem_of_getElem? (i := 114) rfl)))), rfl⟩
theorem wm_4_115 : Cond.code y_M_array b_M_array 4 (some .int) ∈ wG := List.mem_filter.mpr ⟨List.mem_append_right _ (List.mem_append_right _ (List.mem_append_right _ (List.mem_append_right _ (List.mem_of_getElem? (i := 115) rfl)))), rfl⟩
theorem wm_4_116 : Cond.methodLink "LinearRowsLaw" 177 y_M_told ∈ wG := List.mem_filter.mpr ⟨List.mem_append_right _ (List.mem_append_right _ (List.mem_append_right _ (List.mem_append_right _ (List.mem_of_getElem? (i := 116) rfl)))), rfl⟩
theorem wm_4_117 : Cond.instanceMethod y_M_told ∈ wG := List.mem_filter.mpr ⟨List.mem_append_right _ (List.mem_append_right _ (List.mem_append_right _ (List.mem_append_right _ (List.mem_of_getElem? (i := 117) rfl)))), rfl⟩
theorem wm_4_118 : Cond.selects "LinearRowsModel" y_M_told y_M_told ∈ wG := List.mem_filter.mpr ⟨List.mem_append_right _ (List.mem_append_right _ (List.mem_append_right _ (List.mem_append_right _ (List.mem_of_getElem? (i := 118) rfl)))), rfl⟩
theorem wm_4_119 : Cond.code y_M_told b_M_told 5 (some .int) ∈ wG := List.mem_filter.mpr ⟨List.mem_append_right _ (List.mem_append_right _ (List.mem_append_right _ (List.mem_append_right _ (List.mem_of_getElem? (i := 119) rfl)))), rfl⟩
theorem wm_4_120 : Cond.constantLong "LinearRowsLaw" 110 4294967295 ∈ wG := List.mem_filter.mpr ⟨List.mem_append_right _ (List.mem_append_right _ (List.mem_append_right _ (List.mem_append_right _ (List.mem_of_getElem? (i := 120) rfl)))), rfl⟩
theorem ws_X_checkTerm : Cond.selects R_X y_X_checkTerm y_X_checkTerm ∈ wG := List.mem_filter.mpr ⟨List.mem_append_left _ (List.mem_of_getElem? (i := 1) rfl), rfl⟩
theorem ws_S_closeKeptRows : Cond.selects R_S y_S_closeKeptRows y_S_closeKeptRows ∈ wG := List.mem_filter.mpr ⟨List.mem_append_left _ (List.mem_of_getElem? (i := 2) rfl), rfl⟩
theorem ws_T_chainThrough : Cond.selects R_T y_T_chainThrough y_T_chainThrough ∈ wG := List.mem_filter.mpr ⟨List.mem_append_left _ (List.mem_of_getElem? (i := 3) rfl), rfl⟩
theorem ws_T_hasOppositesBelowZero : Cond.selects R_T y_T_hasOppositesBelowZero y_T_hasOppositesBelowZero ∈ wG := List.mem_filter.mpr ⟨List.mem_append_left _ (List.mem_of_getElem? (i := 4) rfl), rfl⟩
theorem ws_T_cutToEven : Cond.selects R_T y_T_cutToEven y_T_cutToEven ∈ wG := List.mem_filter.mpr ⟨List.mem_append_left _ (List.mem_of_getElem? (i := 5) rfl), rfl⟩
theorem ws_T_hasTwicesThatContradict : Cond.selects R_T y_T_hasTwicesThatContradict y_T_hasTwicesThatContradict ∈ wG := List.mem_filter.mpr ⟨List.mem_append_left _ (List.mem_of_getElem? (i := 6) rfl), rfl⟩
theorem ws_T_addHalves : Cond.selects R_T y_T_addHalves y_T_addHalves ∈ wG := List.mem_filter.mpr ⟨List.mem_append_left _ (List.mem_of_getElem? (i := 7) rfl), rfl⟩
theorem ws_X_takeMade : Cond.selects R_X y_X_takeMade y_X_takeMade ∈ wG := List.mem_filter.mpr ⟨List.mem_append_left _ (List.mem_of_getElem? (i := 8) rfl), rfl⟩
theorem ws_S_keepBounds : Cond.selects R_S y_S_keepBounds y_S_keepBounds ∈ wG := List.mem_filter.mpr ⟨List.mem_append_left _ (List.mem_of_getElem? (i := 9) rfl), rfl⟩
theorem ws_X_checkName : Cond.selects R_X y_X_checkName y_X_checkName ∈ wG := List.mem_filter.mpr ⟨List.mem_append_left _ (List.mem_of_getElem? (i := 10) rfl), rfl⟩
theorem ws_X_numberAt : Cond.selects R_X y_X_numberAt y_X_numberAt ∈ wG := List.mem_filter.mpr ⟨List.mem_append_left _ (List.mem_of_getElem? (i := 11) rfl), rfl⟩
theorem ws_X_sampleNumber : Cond.selects R_X y_X_sampleNumber y_X_sampleNumber ∈ wG := List.mem_filter.mpr ⟨List.mem_append_left _ (List.mem_of_getElem? (i := 12) rfl), rfl⟩
theorem ws_X_greatestBeside : Cond.selects R_X y_X_greatestBeside y_X_greatestBeside ∈ wG := List.mem_filter.mpr ⟨List.mem_append_left _ (List.mem_of_getElem? (i := 13) rfl), rfl⟩
theorem ws_X_tellRow : Cond.selects R_X y_X_tellRow y_X_tellRow ∈ wG := List.mem_filter.mpr ⟨List.mem_append_left _ (List.mem_of_getElem? (i := 14) rfl), rfl⟩
theorem ws_X_leaveOutPairs : Cond.selects R_X y_X_leaveOutPairs y_X_leaveOutPairs ∈ wG := List.mem_filter.mpr ⟨List.mem_append_left _ (List.mem_of_getElem? (i := 15) rfl), rfl⟩
theorem ws_X_leaveOutUnlessNeeded : Cond.selects R_X y_X_leaveOutUnlessNeeded y_X_leaveOutUnlessNeeded ∈ wG := List.mem_filter.mpr ⟨List.mem_append_left _ (List.mem_of_getElem? (i := 16) rfl), rfl⟩
theorem ws_X_leaveOutSingles : Cond.selects R_X y_X_leaveOutSingles y_X_leaveOutSingles ∈ wG := List.mem_filter.mpr ⟨List.mem_append_left _ (List.mem_of_getElem? (i := 17) rfl), rfl⟩
theorem ws_X_tellLeftRows : Cond.selects R_X y_X_tellLeftRows y_X_tellLeftRows ∈ wG := List.mem_filter.mpr ⟨List.mem_append_left _ (List.mem_of_getElem? (i := 18) rfl), rfl⟩
theorem ws_X_countEmpty : Cond.selects R_X y_X_countEmpty y_X_countEmpty ∈ wG := List.mem_filter.mpr ⟨List.mem_append_left _ (List.mem_of_getElem? (i := 19) rfl), rfl⟩
theorem ws_M_isShape : Cond.selects R_M y_M_isShape y_M_isShape ∈ wG := List.mem_filter.mpr ⟨List.mem_append_left _ (List.mem_of_getElem? (i := 20) rfl), rfl⟩
theorem ws_M_none : Cond.selects R_M y_M_none y_M_none ∈ wG := List.mem_filter.mpr ⟨List.mem_append_left _ (List.mem_of_getElem? (i := 21) rfl), rfl⟩
theorem ws_M_isTerm : Cond.selects R_M y_M_isTerm y_M_isTerm ∈ wG := List.mem_filter.mpr ⟨List.mem_append_left _ (List.mem_of_getElem? (i := 22) rfl), rfl⟩
theorem ws_M_closeShape : Cond.selects R_M y_M_closeShape y_M_closeShape ∈ wG := List.mem_filter.mpr ⟨List.mem_append_left _ (List.mem_of_getElem? (i := 23) rfl), rfl⟩
theorem ws_M_loadRows : Cond.selects R_M y_M_loadRows y_M_loadRows ∈ wG := List.mem_filter.mpr ⟨List.mem_append_left _ (List.mem_of_getElem? (i := 24) rfl), rfl⟩
theorem ws_M_close : Cond.selects R_M y_M_close y_M_close ∈ wG := List.mem_filter.mpr ⟨List.mem_append_left _ (List.mem_of_getElem? (i := 25) rfl), rfl⟩
theorem ws_M_isFar : Cond.selects R_M y_M_isFar y_M_isFar ∈ wG := List.mem_filter.mpr ⟨List.mem_append_left _ (List.mem_of_getElem? (i := 26) rfl), rfl⟩
theorem ws_M_boundOf : Cond.selects R_M y_M_boundOf y_M_boundOf ∈ wG := List.mem_filter.mpr ⟨List.mem_append_left _ (List.mem_of_getElem? (i := 27) rfl), rfl⟩
theorem ws_M_areShapes : Cond.selects R_M y_M_areShapes y_M_areShapes ∈ wG := List.mem_filter.mpr ⟨List.mem_append_left _ (List.mem_of_getElem? (i := 28) rfl), rfl⟩
theorem ws_M_keepClosed : Cond.selects R_M y_M_keepClosed y_M_keepClosed ∈ wG := List.mem_filter.mpr ⟨List.mem_append_left _ (List.mem_of_getElem? (i := 29) rfl), rfl⟩
theorem ws_M_copyTable : Cond.selects R_M y_M_copyTable y_M_copyTable ∈ wG := List.mem_filter.mpr ⟨List.mem_append_left _ (List.mem_of_getElem? (i := 30) rfl), rfl⟩
theorem ws_M_copyRows : Cond.selects R_M y_M_copyRows y_M_copyRows ∈ wG := List.mem_filter.mpr ⟨List.mem_append_left _ (List.mem_of_getElem? (i := 31) rfl), rfl⟩
theorem ws_M_closeMade : Cond.selects R_M y_M_closeMade y_M_closeMade ∈ wG := List.mem_filter.mpr ⟨List.mem_append_left _ (List.mem_of_getElem? (i := 32) rfl), rfl⟩
theorem ws_M_keepMade : Cond.selects R_M y_M_keepMade y_M_keepMade ∈ wG := List.mem_filter.mpr ⟨List.mem_append_left _ (List.mem_of_getElem? (i := 33) rfl), rfl⟩
theorem ws_M_isName : Cond.selects R_M y_M_isName y_M_isName ∈ wG := List.mem_filter.mpr ⟨List.mem_append_left _ (List.mem_of_getElem? (i := 34) rfl), rfl⟩
theorem ws_M_turn : Cond.selects R_M y_M_turn y_M_turn ∈ wG := List.mem_filter.mpr ⟨List.mem_append_left _ (List.mem_of_getElem? (i := 35) rfl), rfl⟩
theorem ws_M_drop : Cond.selects R_M y_M_drop y_M_drop ∈ wG := List.mem_filter.mpr ⟨List.mem_append_left _ (List.mem_of_getElem? (i := 36) rfl), rfl⟩
theorem ws_M_addRow : Cond.selects R_M y_M_addRow y_M_addRow ∈ wG := List.mem_filter.mpr ⟨List.mem_append_left _ (List.mem_of_getElem? (i := 37) rfl), rfl⟩
theorem ws_M_valueAt : Cond.selects R_M y_M_valueAt y_M_valueAt ∈ wG := List.mem_filter.mpr ⟨List.mem_append_left _ (List.mem_of_getElem? (i := 38) rfl), rfl⟩
theorem ws_M_listRow : Cond.selects R_M y_M_listRow y_M_listRow ∈ wG := List.mem_filter.mpr ⟨List.mem_append_left _ (List.mem_of_getElem? (i := 39) rfl), rfl⟩
theorem wu_T : ∀ w ∈ u_ws R_T F_T 2, w ∈ wG := by
  show ∀ w ∈ [u_lay R_T F_T 0, u_lay R_T F_T 1], w ∈ wG
  exact List.forall_mem_cons.mpr ⟨wm_1_47, List.forall_mem_cons.mpr ⟨wm_1_49, fun _ h => absurd h List.not_mem_nil⟩⟩
theorem wu_S : ∀ w ∈ u_ws R_S F_S 4, w ∈ wG := by
  show ∀ w ∈ [u_lay R_S F_S 0, u_lay R_S F_S 1, u_lay R_S F_S 2, u_lay R_S F_S 3], w ∈ wG
  exact List.forall_mem_cons.mpr ⟨wm_1_64, List.forall_mem_cons.mpr ⟨wm_1_66, List.forall_mem_cons.mpr ⟨wm_1_68, List.forall_mem_cons.mpr ⟨wm_1_70, fun _ h => absurd h List.not_mem_nil⟩⟩⟩⟩
theorem wu_X : ∀ w ∈ u_ws R_X F_X 9, w ∈ wG := by
  show ∀ w ∈ [u_lay R_X F_X 0, u_lay R_X F_X 1, u_lay R_X F_X 2, u_lay R_X F_X 3, u_lay R_X F_X 4, u_lay R_X F_X 5, u_lay R_X F_X 6, u_lay R_X F_X 7, u_lay R_X F_X 8], w ∈ wG
  exact List.forall_mem_cons.mpr ⟨wm_1_84, List.forall_mem_cons.mpr ⟨wm_1_86, List.forall_mem_cons.mpr ⟨wm_1_88, List.forall_mem_cons.mpr ⟨wm_1_90, List.forall_mem_cons.mpr ⟨wm_1_92, List.forall_mem_cons.mpr ⟨wm_1_94, List.forall_mem_cons.mpr ⟨wm_1_96, List.forall_mem_cons.mpr ⟨wm_1_98, List.forall_mem_cons.mpr ⟨wm_1_100, fun _ h => absurd h List.not_mem_nil⟩⟩⟩⟩⟩⟩⟩⟩⟩
theorem wu_M : ∀ w ∈ u_ws R_M F_M 13, w ∈ wG := by
  show ∀ w ∈ [u_lay R_M F_M 0, u_lay R_M F_M 1, u_lay R_M F_M 2, u_lay R_M F_M 3, u_lay R_M F_M 4, u_lay R_M F_M 5, u_lay R_M F_M 6, u_lay R_M F_M 7, u_lay R_M F_M 8, u_lay R_M F_M 9, u_lay R_M F_M 10, u_lay R_M F_M 11, u_lay R_M F_M 12], w ∈ wG
  exact List.forall_mem_cons.mpr ⟨wm_3_138, List.forall_mem_cons.mpr ⟨wm_3_140, List.forall_mem_cons.mpr ⟨wm_3_142, List.forall_mem_cons.mpr ⟨wm_3_144, List.forall_mem_cons.mpr ⟨wm_3_146, List.forall_mem_cons.mpr ⟨wm_3_148, List.forall_mem_cons.mpr ⟨wm_3_150, List.forall_mem_cons.mpr ⟨wm_3_152, List.forall_mem_cons.mpr ⟨wm_3_154, List.forall_mem_cons.mpr ⟨wm_3_156, List.forall_mem_cons.mpr ⟨wm_3_158, List.forall_mem_cons.mpr ⟨wm_3_160, List.forall_mem_cons.mpr ⟨wm_3_162, fun _ h => absurd h List.not_mem_nil⟩⟩⟩⟩⟩⟩⟩⟩⟩⟩⟩⟩⟩
end
section
/-! WORLDS AS LISTS WITH NAMED PLACES: a method is given its caller's whole world ws and the places of its cells; its end says what the list is then. -/
theorem gw_eq {α : Type} {ws : List α} {p : Nat} {x y : α} (h : ws[p]? = some x) : (ws.set p y)[p]? = some y := by
  have := (List.getElem?_eq_some_iff.mp h).1
  simp [List.getElem?_set, this]
theorem gw_ne {α : Type} {ws : List α} {p q : Nat} {x y : α} (h : ws[p]? = some x) (hn : q ≠ p) : (ws.set q y)[p]? = some x := by
  simp [List.getElem?_set, hn, h]
theorem gw_neE {α : Type} {ws : List α} {p q : Nat} {y : α} (hn : q ≠ p) : (ws.set q y)[p]? = ws[p]? := by
  simp [List.getElem?_set, hn]
theorem gw_ap {α : Type} {ws l : List α} {p : Nat} {x : α} (h : ws[p]? = some x) : (ws ++ l)[p]? = some x := by
  have := (List.getElem?_eq_some_iff.mp h).1
  rw [List.getElem?_append_left this]
  exact h
theorem gw_la {α : Type} {ws : List α} {x : α} {p : Nat} (h : ws.length = p) : (ws ++ [x])[p]? = some x := by
  subst h
  simp
theorem gw_ss {α : Type} {ws : List α} {p : Nat} {x y : α} : (ws.set p x).set p y = ws.set p y := by
  simp [List.set_set]
theorem gw_id {α : Type} {ws : List α} {p : Nat} {x : α} (h : ws[p]? = some x) : ws.set p x = ws := by
  apply List.ext_getElem?
  intro q
  by_cases hq : p = q
  · subst hq; rw [gw_eq h, h]
  · rw [gw_neE hq]
/-! words of the tables that are no good ones in the kit's sense, and hold on through calls all the same -/
def wN : List Cond := [Cond.fieldLinkNest "LinearRows" 89 "LinearRows$Shape" "keptRows" "LLinearRows$Table;" "LinearRows",
  Cond.fieldLinkNest "LinearRows" 127 "LinearRows$Shape" "bounds" "LLinearRows$Table;" "LinearRows",
  Cond.fieldLinkNest "LinearRows" 123 "LinearRows$Shape" "empty" "Z" "LinearRows",
  Cond.castable "java/lang/IndexOutOfBoundsException" "java/lang/IndexOutOfBoundsException",
  Cond.declares ⟨"java/lang/RuntimeException", "<init>", "()V"⟩,
  Cond.declares ⟨"java/lang/RuntimeException", "<init>", "(Ljava/lang/String;)V"⟩,
  Cond.declares ⟨"java/lang/Exception", "<init>", "()V"⟩,
  Cond.declares ⟨"java/lang/Exception", "<init>", "(Ljava/lang/String;)V"⟩,
  Cond.declares ⟨"java/lang/Throwable", "<init>", "()V"⟩,
  Cond.declares ⟨"java/lang/Throwable", "<init>", "(Ljava/lang/String;)V"⟩,
  Cond.castable "java/lang/IllegalArgumentException" "java/lang/IllegalArgumentException",
  Cond.methodLinkNest "LinearRows$Shape" 54 y_X_placeOf "LinearRows",
  Cond.methodLinkNest "LinearRows$Table" 88 y_X_plus "LinearRows",
  Cond.castable "java/lang/ArithmeticException" "java/lang/ArithmeticException",
  Cond.methodLinkNest "LinearRows$Table" 33 y_X_placeOf "LinearRows",
  Cond.methodLinkNest "LinearRows$Shape" 108 y_X_termAt "LinearRows",
  Cond.methodLinkNest "LinearRows$Shape" 105 y_X_plus "LinearRows"]
def gN (U : State) : Prop := ∀ w ∈ wN, va_Nw w U
theorem gN.warm {s U : State} (hW : s.WarmedH U.vm) (h : gN s) : gN U := by
  intro w hw
  have hs := h w hw
  simp only [wN, List.mem_cons, List.not_mem_nil, or_false] at hw
  rcases hw with rfl | rfl | rfl | rfl | rfl | rfl | rfl | rfl | rfl | rfl | rfl | rfl | rfl | rfl | rfl | rfl | rfl <;> first | exact va_Nw.warmM hW hs | exact va_Nw.warmF hW hs | exact va_Nw.warmD hW hs | exact va_Nw.warmC hW hs
theorem gN_0 {s : State} (h : gN s) : va_Nw (Cond.fieldLinkNest "LinearRows" 89 "LinearRows$Shape" "keptRows" "LLinearRows$Table;" "LinearRows") s := h _ (List.mem_of_getElem? (i := 0) rfl)
theorem gN_1 {s : State} (h : gN s) : va_Nw (Cond.fieldLinkNest "LinearRows" 127 "LinearRows$Shape" "bounds" "LLinearRows$Table;" "LinearRows") s := h _ (List.mem_of_getElem? (i := 1) rfl)
theorem gN_2 {s : State} (h : gN s) : va_Nw (Cond.fieldLinkNest "LinearRows" 123 "LinearRows$Shape" "empty" "Z" "LinearRows") s := h _ (List.mem_of_getElem? (i := 2) rfl)
theorem gN_3 {s : State} (h : gN s) : va_Nw (Cond.castable "java/lang/IndexOutOfBoundsException" "java/lang/IndexOutOfBoundsException") s := h _ (List.mem_of_getElem? (i := 3) rfl)
theorem gN_4 {s : State} (h : gN s) : va_Nw (Cond.declares ⟨"java/lang/RuntimeException", "<init>", "()V"⟩) s := h _ (List.mem_of_getElem? (i := 4) rfl)
theorem gN_5 {s : State} (h : gN s) : va_Nw (Cond.declares ⟨"java/lang/RuntimeException", "<init>", "(Ljava/lang/String;)V"⟩) s := h _ (List.mem_of_getElem? (i := 5) rfl)
theorem gN_6 {s : State} (h : gN s) : va_Nw (Cond.declares ⟨"java/lang/Exception", "<init>", "()V"⟩) s := h _ (List.mem_of_getElem? (i := 6) rfl)
theorem gN_7 {s : State} (h : gN s) : va_Nw (Cond.declares ⟨"java/lang/Exception", "<init>", "(Ljava/lang/String;)V"⟩) s := h _ (List.mem_of_getElem? (i := 7) rfl)
theorem gN_8 {s : State} (h : gN s) : va_Nw (Cond.declares ⟨"java/lang/Throwable", "<init>", "()V"⟩) s := h _ (List.mem_of_getElem? (i := 8) rfl)
theorem gN_9 {s : State} (h : gN s) : va_Nw (Cond.declares ⟨"java/lang/Throwable", "<init>", "(Ljava/lang/String;)V"⟩) s := h _ (List.mem_of_getElem? (i := 9) rfl)
theorem gN_10 {s : State} (h : gN s) : va_Nw (Cond.castable "java/lang/IllegalArgumentException" "java/lang/IllegalArgumentException") s := h _ (List.mem_of_getElem? (i := 10) rfl)
theorem gN_11 {s : State} (h : gN s) : va_Nw (Cond.methodLinkNest "LinearRows$Shape" 54 y_X_placeOf "LinearRows") s := h _ (List.mem_of_getElem? (i := 11) rfl)
theorem gN_12 {s : State} (h : gN s) : va_Nw (Cond.methodLinkNest "LinearRows$Table" 88 y_X_plus "LinearRows") s := h _ (List.mem_of_getElem? (i := 12) rfl)
theorem gN_13 {s : State} (h : gN s) : va_Nw (Cond.castable "java/lang/ArithmeticException" "java/lang/ArithmeticException") s := h _ (List.mem_of_getElem? (i := 13) rfl)
theorem gN_14 {s : State} (h : gN s) : va_Nw (Cond.methodLinkNest "LinearRows$Table" 33 y_X_placeOf "LinearRows") s := h _ (List.mem_of_getElem? (i := 14) rfl)
theorem gN_15 {s : State} (h : gN s) : va_Nw (Cond.methodLinkNest "LinearRows$Shape" 108 y_X_termAt "LinearRows") s := h _ (List.mem_of_getElem? (i := 15) rfl)
theorem gN_16 {s : State} (h : gN s) : va_Nw (Cond.methodLinkNest "LinearRows$Shape" 105 y_X_plus "LinearRows") s := h _ (List.mem_of_getElem? (i := 16) rfl)
abbrev gw_Pc (D : va_G) (cl : List vw_C) (tys : List (ClassId × FieldType)) (av : List Value) (ws : va_W) (sz : Nat) : Array Value → State → Prop := va_Pc av (fun U => U.heap.size = sz ∧ va_P D cl ws U.heap ∧ va_K D cl tys U ∧ va_D (fun _ => True) ws ∧ gN U)
abbrev gw_B (D : va_G) (cl : List vw_C) (tys : List (ClassId × FieldType)) (ws : va_W) (sz : Nat) : va_W → State → Prop := fun w t => va_P D cl w t.heap ∧ va_K D cl tys t ∧ va_D (va_A ws sz) w
abbrev gw_MI (l : Launch) (y : MethodName) (Wd : List Cond) (rm : Room) (D : va_G) (cl : List vw_C) (tys : List (ClassId × FieldType)) (av : List Value) (ws : va_W) (sz : Nat) (post : Int32 → va_W → Prop) (mc ms : Nat) : Prop := Met l y Wd rm (gw_Pc D cl tys av ws sz) (va_Qi post (gw_B D cl tys ws sz) (va_A ws sz)) mc ms (va_A ws sz)
abbrev gw_ML (l : Launch) (y : MethodName) (Wd : List Cond) (rm : Room) (D : va_G) (cl : List vw_C) (tys : List (ClassId × FieldType)) (av : List Value) (ws : va_W) (sz : Nat) (post : Int64 → va_W → Prop) (mc ms : Nat) : Prop := Met l y Wd rm (gw_Pc D cl tys av ws sz) (va_Ql post (gw_B D cl tys ws sz) (va_A ws sz)) mc ms (va_A ws sz)
abbrev gw_MV (l : Launch) (y : MethodName) (Wd : List Cond) (rm : Room) (D : va_G) (cl : List vw_C) (tys : List (ClassId × FieldType)) (av : List Value) (ws : va_W) (sz : Nat) (post : va_W → Prop) (mc ms : Nat) : Prop := Met l y Wd rm (gw_Pc D cl tys av ws sz) (va_Qv post (gw_B D cl tys ws sz) (va_A ws sz)) mc ms (va_A ws sz)
section GW
variable {p : Program} {l : Launch} {e : Env} {R : Room} {s : State} {m : MethodId} {args : Array Value} {below : List Frame} {meth : Method} {c : Code} {H : Heap} {locs : List Loc} {cells slots : Nat} {Q : State → Prop}
variable {D : va_G} {cl : List vw_C} {tys : List (ClassId × FieldType)} {A : Nat → Prop} {ws : va_W} {H0 : Heap} {mc ms : Nat} {a : Array Value} {pc : Nat} {ls : Array Slot} {rest st0 : List Value}
theorem gw_fr (hD : va_D A ws) (hS : va_S A H0 H locs) (hA : ∀ q, H0.size ≤ q → A q) : ∀ q, va_A ws H.size q → A q := fun q h => by
  rcases h with ⟨k, e, h⟩ | h
  · exact hD.2 k _ h
  · exact hA q (Nat.le_trans hS.1 h)
theorem gw_blind {av : List Value} {sz : Nat} : FrameBlind (gw_Pc D cl tys av ws sz) := fun a U g mk q => by
  obtain ⟨q0, q1, qP, qK, qD, qN⟩ := q
  exact ⟨q0, q1, qP, va_K.moved (u := U) (U := U.calling g mk a) (Vm.Alike.refl U.vm) qK, qD, gN.warm (s := U) (U := U.calling g mk a) (State.WarmedH.refl U) qN⟩
theorem gw_pre {av : List Value} (hK : va_K D cl tys s) (hN : gN s) (hP : va_P D cl ws H) (hD : va_D A ws) : ∀ U : State, U.heap = H → s.WarmedH U.vm → gw_Pc D cl tys av ws H.size av.toArray U := fun U hU hW =>
  ⟨rfl, by rw [hU], by rw [hU]; exact hP, va_K.moved hW.alike hK, hD.weaken (fun _ _ _ _ => trivial), gN.warm hW hN⟩
theorem gw_preS {av : List Value} (hK : va_K D cl tys s) (hN : gN s) (hP : va_P D cl ws H) (hD : va_D A ws) : PreS s H (gw_Pc D cl tys av ws H.size) av := ⟨gw_blind, gw_pre hK hN hP hD⟩
theorem gw_preV {b : Nat} {As : List Value} {ci q0 : Nat} {q : vw_C} {fs : List Value} (hK : va_K D cl tys s) (hN : gN s) (hP : va_P D cl ws H) (hD : va_D A ws) (hc : cl[ci]? = some q) (he : ws[q0]? = some (b, .inr (ci, fs))) : PreV s H q.1 b (gw_Pc D cl tys (.ref b :: As) ws H.size) As := ⟨gw_blind, va_recv hK hP hc he, gw_pre hK hN hP hD⟩
theorem gw_ci {post : Int32 → va_W → Prop} (hr : va_Run p l e R s m args below meth c H locs cells slots mc ms (F0 m pc ls st0) rest (va_Qi post (gw_B D cl tys ws H.size) (va_A ws H.size) a) (va_A ws H.size)) (hD : va_D A ws) (hS : va_S A H0 H locs) (hA : ∀ q, H0.size ≤ q → A q)
    (kk : ∀ (r : Int32) (w : va_W) (H1 : Heap) (locs1 : List Loc), post r w → va_P D cl w H1 → va_D A w → va_S A H0 H1 locs1 → W p l e R s m args below meth c H1 locs1 (cells + mc) (slots + ms) Q (F0 m (pc + 3) ls (.int r :: rest))) : W p l e R s m args below meth c H locs cells slots Q (F0 m pc ls st0) := by
  have hF := gw_fr hD hS hA
  refine va_calli hr hS (fun q _ h => hF q h) hF (fun r u t H1 locs1 ht _ hw hB _ _ hS1 => ?_)
  obtain ⟨hP1, _, hD1⟩ := hB
  rw [ht] at hP1
  exact kk r u H1 locs1 hw hP1 (hD1.weaken (fun _ _ _ h => hF _ h)) hS1
theorem gw_cl {post : Int64 → va_W → Prop} (hr : va_Run p l e R s m args below meth c H locs cells slots mc ms (F0 m pc ls st0) rest (va_Ql post (gw_B D cl tys ws H.size) (va_A ws H.size) a) (va_A ws H.size)) (hD : va_D A ws) (hS : va_S A H0 H locs) (hA : ∀ q, H0.size ≤ q → A q)
    (kk : ∀ (r : Int64) (w : va_W) (H1 : Heap) (locs1 : List Loc), post r w → va_P D cl w H1 → va_D A w → va_S A H0 H1 locs1 → W p l e R s m args below meth c H1 locs1 (cells + mc) (slots + ms) Q (F0 m (pc + 3) ls (.long r :: rest))) : W p l e R s m args below meth c H locs cells slots Q (F0 m pc ls st0) := by
  have hF := gw_fr hD hS hA
  refine va_calll hr hS (fun q _ h => hF q h) hF (fun r u t H1 locs1 ht _ hw hB _ _ hS1 => ?_)
  obtain ⟨hP1, _, hD1⟩ := hB
  rw [ht] at hP1
  exact kk r u H1 locs1 hw hP1 (hD1.weaken (fun _ _ _ h => hF _ h)) hS1
theorem gw_cv {post : va_W → Prop} (hr : va_Run p l e R s m args below meth c H locs cells slots mc ms (F0 m pc ls st0) rest (va_Qv post (gw_B D cl tys ws H.size) (va_A ws H.size) a) (va_A ws H.size)) (hD : va_D A ws) (hS : va_S A H0 H locs) (hA : ∀ q, H0.size ≤ q → A q)
    (kk : ∀ (w : va_W) (H1 : Heap) (locs1 : List Loc), post w → va_P D cl w H1 → va_D A w → va_S A H0 H1 locs1 → W p l e R s m args below meth c H1 locs1 (cells + mc) (slots + ms) Q (F0 m (pc + 3) ls rest)) : W p l e R s m args below meth c H locs cells slots Q (F0 m pc ls st0) := by
  have hF := gw_fr hD hS hA
  refine va_callv hr hS (fun q _ h => hF q h) hF (fun u t H1 locs1 ht _ hw hB _ _ hS1 => ?_)
  obtain ⟨hP1, _, hD1⟩ := hB
  rw [ht] at hP1
  exact kk u H1 locs1 hw hP1 (hD1.weaken (fun _ _ _ h => hF _ h)) hS1
end GW
theorem gw_same {D : va_G} {cl : List vw_C} {tys : List (ClassId × FieldType)} {s : State} {t : Nat} {cJ cA : ClassId} {ty : FieldType} (hK : va_K D cl tys s) (ht : tys[t]? = some (cJ, ty)) (h : va_K D cl (tys ++ [(cA, ty)]) s) : cA = cJ := by
  have h1 := (hK.2 t _ ht).2
  have h2 := (h.2 tys.length (cA, ty) (by simp)).2
  cases ty <;> first | exact Option.some.inj (h2.symm.trans h1) | (obtain ⟨_, _, _, _, _, e1⟩ := h1; obtain ⟨_, _, _, _, _, e2⟩ := h2; exact Option.some.inj (e2.symm.trans e1))
end
section
/-! ROWS OF OUR OWN: heads, ends and calls of methods whose world is their caller's whole list -/
abbrev lr_E : Int64 := 4611686018427387904
abbrev gT (cJ cI cZ cS : ClassId) : List (ClassId × FieldType) := [(cJ, .long), (cI, .int), (cZ, .boolean), (cS, .object "LinearRows$Shape")]
theorem gd_good {Ts ws0 : List Cond} (hT : ∀ w ∈ wG, w ∈ Ts) (h : ∀ w ∈ ws0, w ∈ wG) : GoodIn Ts ws0 := fun w hw => ⟨hT w (h w hw), good_of_word (List.mem_filter.mp (h w hw)).2⟩
theorem gd_c {c0 : Cond} (h : c0 ∈ wG) : ∀ w ∈ c0 :: wG, w ∈ wG := List.forall_mem_cons.mpr ⟨h, fun _ h => h⟩
theorem gd_t (c0 : Cond) : ∀ w ∈ wG, w ∈ c0 :: wG := fun _ h => List.mem_cons_of_mem _ h
section GH
variable {l : Launch} {y : MethodName} {rm : Room} {D : va_G} {cl : List vw_C} {tys : List (ClassId × FieldType)} {av : List Value} {ws : va_W} {sz : Nat} {mc ms : Nat} {cc : ByteArray} {maxL : Nat} {ret : Option FieldType} {Qc : Array Value → State → Outcome → State → Prop}
/-- the head of a method's contract -/
theorem gw_head (hy : plainName y.cls = true) (hn : (lg_sl av).length ≤ maxL)
    (body : ∀ (p : Program) (e : Env) (s : State) (m : MethodId) (below : List Frame) (meth : Method) (c : Code), s.heap.size = sz → p.tables.exec = Jvm.exec → c.code = cc → meth.sig.returnType = ret → meth.locks = false → c.maxLocals = maxL → s.vm.findClass y.cls = some m.cls → meth.name = y.name → (∀ w ∈ Cond.code y cc maxL ret :: wG, w.before av.toArray s = true) → va_K D cl tys s → gN s → va_P D cl ws s.heap → va_D (va_A ws sz) ws → va_S (va_A ws sz) s.heap s.heap [] → (∀ q, s.heap.size ≤ q → va_A ws sz q) → ∀ (ls : Array Slot), lv_has ls maxL (lv_args 0 av) →
      W p l e rm s m av.toArray below meth c s.heap [] 0 0 (MQ below Qc av.toArray s mc ms (va_A ws sz)) (F0 m 0 ls [])) :
    Met l y (Cond.code y cc maxL ret :: wG) rm (gw_Pc D cl tys av ws sz) Qc mc ms (va_A ws sz) := by
  refine Met.ofW (cc := cc) (maxL := maxL) (ret := ret) hy rfl ?_
  intro p e s m args below meth c s₁ B hml hv
  obtain ⟨rfl, hsz, hP, hK, hD0, hN⟩ := hv
  have hts := atoms_spec (ws := Cond.code y cc maxL ret :: wG) B.pre
  subst hsz
  rw [lg_entry_eq]
  exact body p e s m below meth c rfl B.exec B.bytes B.returns B.notSynchronized hml (findClass_of_methodNamed B.named) (name_of_methodNamed B.named B.method).1 hts hK hN hP hD0.self va_S.rf (fun q h => Or.inr h) _ (lv_entry av hn)
end GH
section GE
variable {p : Program} {l : Launch} {e : Env} {R : Room} {s : State} {m : MethodId} {args : Array Value} {below : List Frame} {meth : Method} {c : Code} {H : Heap} {locs : List Loc} {cells slots : Nat} {Q : State → Prop}
variable {D : va_G} {cl : List vw_C} {tys : List (ClassId × FieldType)} {A : Nat → Prop} {w : va_W} {mc ms : Nat} {pc : Nat} {ls : Array Slot} {rest : List Value} {cc : ByteArray}
theorem gx_i {x y : Int32} (h : x = y) (k : W p l e R s m args below meth c H locs cells slots Q (F0 m pc ls (.int y :: rest))) : W p l e R s m args below meth c H locs cells slots Q (F0 m pc ls (.int x :: rest)) := by rw [h]; exact k
theorem gx_l {x y : Int64} (h : x = y) (k : W p l e R s m args below meth c H locs cells slots Q (F0 m pc ls (.long y :: rest))) : W p l e R s m args below meth c H locs cells slots Q (F0 m pc ls (.long x :: rest)) := by rw [h]; exact k
theorem gw_iret {post : Int32 → va_W → Prop} {v : Int32} (hx : p.tables.exec = Jvm.exec) (hb : c.code = cc) (hr : meth.sig.returnType = some .int) (hlocks : meth.locks = false) (hK : va_K D cl tys s) (hP : va_P D cl w H) (hD : va_D A w) (hS : va_S A s.heap H locs) (hc : cells ≤ mc) (hs : slots ≤ ms) (hdg : decode cc pc = .ok (.ireturn, 1)) (hp : post v w) :
    W p l e R s m args below meth c H locs cells slots (MQ below (va_Qi post (fun w t => va_P D cl w t.heap ∧ va_K D cl tys t ∧ va_D A w) A) args s mc ms A) (F0 m pc ls [.int v]) := by
  refine W.widen hc hs ?_
  exact W.iret hx hb hr (fun t ht hW => ⟨⟨v, w, rfl, hp, by rw [ht]; exact hP, va_K.moved hW.alike hK, hD⟩, hS.F ht⟩) hS.2.2 hdg hlocks
theorem gw_zret {post : Int32 → va_W → Prop} {v : Int32} (hx : p.tables.exec = Jvm.exec) (hb : c.code = cc) (hr : meth.sig.returnType = some .boolean) (hlocks : meth.locks = false) (hK : va_K D cl tys s) (hP : va_P D cl w H) (hD : va_D A w) (hS : va_S A s.heap H locs) (hc : cells ≤ mc) (hs : slots ≤ ms) (hn : narrow .boolean (.int v) = .int v) (hdg : decode cc pc = .ok (.ireturn, 1)) (hp : post v w) :
    W p l e R s m args below meth c H locs cells slots (MQ below (va_Qi post (fun w t => va_P D cl w t.heap ∧ va_K D cl tys t ∧ va_D A w) A) args s mc ms A) (F0 m pc ls [.int v]) := by
  refine W.widen hc hs ?_
  exact W.zret hx hb hr hn (fun t ht hW => ⟨⟨v, w, rfl, hp, by rw [ht]; exact hP, va_K.moved hW.alike hK, hD⟩, hS.F ht⟩) hS.2.2 hdg hlocks
theorem gw_lret {post : Int64 → va_W → Prop} {v : Int64} (hx : p.tables.exec = Jvm.exec) (hb : c.code = cc) (hr : meth.sig.returnType = some .long) (hlocks : meth.locks = false) (hK : va_K D cl tys s) (hP : va_P D cl w H) (hD : va_D A w) (hS : va_S A s.heap H locs) (hc : cells ≤ mc) (hs : slots ≤ ms) (hdg : decode cc pc = .ok (.lreturn, 1)) (hp : post v w) :
    W p l e R s m args below meth c H locs cells slots (MQ below (va_Ql post (fun w t => va_P D cl w t.heap ∧ va_K D cl tys t ∧ va_D A w) A) args s mc ms A) (F0 m pc ls [.long v]) := by
  refine W.widen hc hs ?_
  exact W.lret hx hb hr (fun t ht hW => ⟨⟨v, w, rfl, hp, by rw [ht]; exact hP, va_K.moved hW.alike hK, hD⟩, hS.F ht⟩) hS.2.2 hdg hlocks
theorem gw_vret {post : va_W → Prop} (hx : p.tables.exec = Jvm.exec) (hb : c.code = cc) (hr : meth.sig.returnType = none) (hlocks : meth.locks = false) (hK : va_K D cl tys s) (hP : va_P D cl w H) (hD : va_D A w) (hS : va_S A s.heap H locs) (hc : cells ≤ mc) (hs : slots ≤ ms) (hdg : decode cc pc = .ok (.return_, 1)) (hp : post w) :
    W p l e R s m args below meth c H locs cells slots (MQ below (va_Qv post (fun w t => va_P D cl w t.heap ∧ va_K D cl tys t ∧ va_D A w) A) args s mc ms A) (F0 m pc ls []) := by
  refine W.widen hc hs ?_
  exact W.vret hx hb hr (fun t ht hW => ⟨⟨w, rfl, hp, by rw [ht]; exact hP, va_K.moved hW.alike hK, hD⟩, hS.F ht⟩) hS.2.2 hdg hlocks
/-- two longs compared, and the branch behind -/
theorem gx_lle (hx : p.tables.exec = Jvm.exec) (hb : c.code = cc) {x y : Int64} {off : Int} {tgt : Nat} (d1 : decode cc pc = .ok (.lcmp, 1)) (d2 : decode cc (pc + 1) = .ok (.ifCond .le off, 3)) (ht : ((pc + 1 : Nat) : Int) + off = (tgt : Int))
    (kt : x ≤ y → W p l e R s m args below meth c H locs cells slots Q (F0 m tgt ls rest)) (kf : ¬ x ≤ y → W p l e R s m args below meth c H locs cells slots Q (F0 m (pc + 4) ls rest)) : W p l e R s m args below meth c H locs cells slots Q (F0 m pc ls (.long y :: .long x :: rest)) := by
  refine W.lcmp hx hb d1 (lv_if_le (tgt := tgt) hx hb d2 ht (fun h => kt ((lg_cmp_le x y).mp h)) (fun h => kf (fun q => h ((lg_cmp_le x y).mpr q))))
theorem gx_llt (hx : p.tables.exec = Jvm.exec) (hb : c.code = cc) {x y : Int64} {off : Int} {tgt : Nat} (d1 : decode cc pc = .ok (.lcmp, 1)) (d2 : decode cc (pc + 1) = .ok (.ifCond .lt off, 3)) (ht : ((pc + 1 : Nat) : Int) + off = (tgt : Int))
    (kt : x < y → W p l e R s m args below meth c H locs cells slots Q (F0 m tgt ls rest)) (kf : ¬ x < y → W p l e R s m args below meth c H locs cells slots Q (F0 m (pc + 4) ls rest)) : W p l e R s m args below meth c H locs cells slots Q (F0 m pc ls (.long y :: .long x :: rest)) := by
  refine W.lcmp hx hb d1 (lv_if_lt (tgt := tgt) hx hb d2 ht (fun h => kt ((lg_cmp_lt x y).mp h)) (fun h => kf (fun q => h ((lg_cmp_lt x y).mpr q))))
theorem gx_lge (hx : p.tables.exec = Jvm.exec) (hb : c.code = cc) {x y : Int64} {off : Int} {tgt : Nat} (d1 : decode cc pc = .ok (.lcmp, 1)) (d2 : decode cc (pc + 1) = .ok (.ifCond .ge off, 3)) (ht : ((pc + 1 : Nat) : Int) + off = (tgt : Int))
    (kt : y ≤ x → W p l e R s m args below meth c H locs cells slots Q (F0 m tgt ls rest)) (kf : ¬ y ≤ x → W p l e R s m args below meth c H locs cells slots Q (F0 m (pc + 4) ls rest)) : W p l e R s m args below meth c H locs cells slots Q (F0 m pc ls (.long y :: .long x :: rest)) := by
  refine W.lcmp hx hb d1 (lv_if_ge (tgt := tgt) hx hb d2 ht (fun h => kt ((lg_cmp_ge x y).mp h)) (fun h => kf (fun q => h ((lg_cmp_ge x y).mpr q))))
theorem gx_lgt (hx : p.tables.exec = Jvm.exec) (hb : c.code = cc) {x y : Int64} {off : Int} {tgt : Nat} (d1 : decode cc pc = .ok (.lcmp, 1)) (d2 : decode cc (pc + 1) = .ok (.ifCond .gt off, 3)) (ht : ((pc + 1 : Nat) : Int) + off = (tgt : Int))
    (kt : y < x → W p l e R s m args below meth c H locs cells slots Q (F0 m tgt ls rest)) (kf : ¬ y < x → W p l e R s m args below meth c H locs cells slots Q (F0 m (pc + 4) ls rest)) : W p l e R s m args below meth c H locs cells slots Q (F0 m pc ls (.long y :: .long x :: rest)) := by
  refine W.lcmp hx hb d1 (lv_if_gt (tgt := tgt) hx hb d2 ht (fun h => kt ((lg_cmp_gt x y).mp h)) (fun h => kf (fun q => h ((lg_cmp_gt x y).mpr q))))
theorem gx_leq (hx : p.tables.exec = Jvm.exec) (hb : c.code = cc) {x y : Int64} {off : Int} {tgt : Nat} (d1 : decode cc pc = .ok (.lcmp, 1)) (d2 : decode cc (pc + 1) = .ok (.ifCond .eq off, 3)) (ht : ((pc + 1 : Nat) : Int) + off = (tgt : Int))
    (kt : x = y → W p l e R s m args below meth c H locs cells slots Q (F0 m tgt ls rest)) (kf : ¬ x = y → W p l e R s m args below meth c H locs cells slots Q (F0 m (pc + 4) ls rest)) : W p l e R s m args below meth c H locs cells slots Q (F0 m pc ls (.long y :: .long x :: rest)) := by
  refine W.lcmp hx hb d1 (lv_if_eq (tgt := tgt) hx hb d2 ht (fun h => kt ((lg_cmp_eq x y).mp h)) (fun h => kf (fun q => h ((lg_cmp_eq x y).mpr q))))
theorem gx_lne (hx : p.tables.exec = Jvm.exec) (hb : c.code = cc) {x y : Int64} {off : Int} {tgt : Nat} (d1 : decode cc pc = .ok (.lcmp, 1)) (d2 : decode cc (pc + 1) = .ok (.ifCond .ne off, 3)) (ht : ((pc + 1 : Nat) : Int) + off = (tgt : Int))
    (kt : ¬ x = y → W p l e R s m args below meth c H locs cells slots Q (F0 m tgt ls rest)) (kf : x = y → W p l e R s m args below meth c H locs cells slots Q (F0 m (pc + 4) ls rest)) : W p l e R s m args below meth c H locs cells slots Q (F0 m pc ls (.long y :: .long x :: rest)) := by
  refine W.lcmp hx hb d1 (lv_if_ne (tgt := tgt) hx hb d2 ht (fun h => kt (fun q => h ((lg_cmp_eq x y).mpr q))) (fun h => kf ((lg_cmp_eq x y).mp h)))
end GE
section GR
variable {p : Program} {l : Launch} {e : Env} {R : Room} {s : State} {m : MethodId} {args : Array Value} {below : List Frame} {meth : Method} {c : Code} {H : Heap} {locs : List Loc} {cells slots : Nat}
variable {D : va_G} {cl : List vw_C} {tys : List (ClassId × FieldType)} {A : Nat → Prop} {ws : va_W} {mc ms : Nat} {pc : Nat} {ls : Array Slot} {rest st0 As : List Value} {cc bytes : ByteArray} {nL maxL index n : Nat} {Ts : List Cond} {own C : String} {y : MethodName} {ret : Option FieldType} {rm : Room} {Qc : Array Value → State → Outcome → State → Prop} {free : Addr → Prop} {b : Nat}
/-- a method of an object of ours -/
theorem gw_rV (S : CallFix p m c cc nL s args Ts own) (hT : ∀ w ∈ wG, w ∈ Ts) (hM : Met l y (Cond.code y bytes maxL ret :: wG) rm (gw_Pc D cl tys (.ref b :: As) ws H.size) Qc mc ms free)
    (h1 : Cond.methodLink own index y ∈ wG) (h2 : Cond.instanceMethod y ∈ wG) (h3 : Cond.selects C y y ∈ wG) (h4 : Cond.initialized C ∈ wG) (h5 : Cond.code y bytes maxL ret ∈ wG)
    (hd : y.cls = C ∧ y.cls ≠ "java/lang/invoke/MethodHandle" ∧ y.cls ≠ "java/lang/invoke/VarHandle" ∧ (parseMethodDescriptor y.desc).map (fun d => d.parameters.length) = some n) (hR : rm.frames + 1 ≤ R.frames ∧ 8 + (maxL + 11) + rm.locals ≤ R.locals) (hrc : rm.cells = mc) (hrs : rm.slots = ms)
    (hK : va_K D cl tys s) (hN : gN s) (hP : va_P D cl ws H) (hD : va_D A ws) {ci q0 : Nat} {q : vw_C} {fs : List Value} (hc : cl[ci]? = some q) (hq : q.1 = C) (he : ws[q0]? = some (b, .inr (ci, fs)))
    (hn : As.length = n) (hsize : ls.size = nL) (hstack : st0 = As.reverse ++ .ref b :: rest) (hW : (rest.map fun v => v.category).sum ≤ 8) (hdg : decode cc pc = .ok (.invokevirtual index, 3)) (hf : cells + mc ≤ R.cells ∧ slots + ms ≤ R.slots) :
    va_Run p l e R s m args below meth c H locs cells slots mc ms (F0 m pc ls st0) rest (Qc (Value.ref b :: As).toArray) free := by
  subst hq
  have hG : GoodIn Ts (wsV own index q.1 y (Cond.code y bytes maxL ret :: wG)) := gd_good hT (fun w hw => by
    unfold wsV at hw
    rcases List.mem_append.mp hw with h | h
    · simp only [List.mem_cons, List.not_mem_nil, or_false] at h
      rcases h with rfl | rfl | rfl | rfl
      · exact h1
      · exact h2
      · exact h3
      · exact h4
    · exact gd_c h5 w h)
  exact va_runV S hM (cwV n S.2.2.2.2 hG rfl hrc hrs hd hR) (gw_preV hK hN hP hD hc he) rfl hn hsize hstack (lv_room hW) hdg hf
/-- a static method -/
theorem gw_rS (S : CallFix p m c cc nL s args Ts own) (hT : ∀ w ∈ wG, w ∈ Ts) (hM : Met l y (Cond.code y bytes maxL ret :: wG) rm (gw_Pc D cl tys As ws H.size) Qc mc ms free)
    (h1 : Cond.methodLink own index y ∈ wG) (h2 : Cond.static y ∈ wG) (h4 : Cond.initialized y.cls ∈ wG) (h5 : Cond.code y bytes maxL ret ∈ wG)
    (hd : y.cls ≠ "java/lang/invoke/MethodHandle" ∧ y.cls ≠ "java/lang/invoke/VarHandle" ∧ (parseMethodDescriptor y.desc).map (fun d => d.parameters.length) = some n) (hR : rm.frames + 1 ≤ R.frames ∧ 8 + (maxL + 11) + rm.locals ≤ R.locals) (hrc : rm.cells = mc) (hrs : rm.slots = ms)
    (hK : va_K D cl tys s) (hN : gN s) (hP : va_P D cl ws H) (hD : va_D A ws)
    (hn : As.length = n) (hsize : ls.size = nL) (hstack : st0 = As.reverse ++ rest) (hW : (rest.map fun v => v.category).sum ≤ 8) (hdg : decode cc pc = .ok (.invokestatic index, 3)) (hf : cells + mc ≤ R.cells ∧ slots + ms ≤ R.slots) :
    va_Run p l e R s m args below meth c H locs cells slots mc ms (F0 m pc ls st0) rest (Qc As.toArray) free := by
  have hG : GoodIn Ts (va_wsS own index y (Cond.code y bytes maxL ret :: wG)) := gd_good hT (fun w hw => by
    unfold va_wsS at hw
    rcases List.mem_append.mp hw with h | h
    · simp only [List.mem_cons, List.not_mem_nil, or_false] at h
      rcases h with rfl | rfl | rfl
      · exact h1
      · exact h2
      · exact h4
    · exact gd_c h5 w h)
  exact va_runS S hM (va_cwS n S.2.2.2.2 hG rfl hrc hrs hd hR) (gw_preS hK hN hP hD) rfl hn hsize hstack (lv_room hW) hdg hf
/-- a static method that is private to a nest mate -/
theorem gw_rN {host : String} (S : CallFix p m c cc nL s args Ts own) (hT : ∀ w ∈ wG, w ∈ Ts) (hM : Met l y (Cond.code y bytes maxL ret :: wG) rm (gw_Pc D cl tys As ws H.size) Qc mc ms free)
    (h1 : va_Nw (.methodLinkNest own index y host) s) (h2 : Cond.static y ∈ wG) (h4 : Cond.initialized y.cls ∈ wG) (h5 : Cond.code y bytes maxL ret ∈ wG)
    (hd : y.cls ≠ "java/lang/invoke/MethodHandle" ∧ y.cls ≠ "java/lang/invoke/VarHandle" ∧ (parseMethodDescriptor y.desc).map (fun d => d.parameters.length) = some n) (hR : rm.frames + 1 ≤ R.frames ∧ 8 + (maxL + 11) + rm.locals ≤ R.locals) (hrc : rm.cells = mc) (hrs : rm.slots = ms)
    (hK : va_K D cl tys s) (hN : gN s) (hP : va_P D cl ws H) (hD : va_D A ws)
    (hn : As.length = n) (hsize : ls.size = nL) (hstack : st0 = As.reverse ++ rest) (hW : (rest.map fun v => v.category).sum ≤ 8) (hdg : decode cc pc = .ok (.invokestatic index, 3)) (hf : cells + mc ≤ R.cells ∧ slots + ms ≤ R.slots) :
    va_Run p l e R s m args below meth c H locs cells slots mc ms (F0 m pc ls st0) rest (Qc As.toArray) free :=
  va_runSN S hM ⟨va_cnB n S.2.2.2.2 (gd_good hT (gd_c h5)) rfl hrc hrs h1 (S.2.2.2.2 _ (hT _ h4)) hd hR, S.2.2.2.2 _ (hT _ h2), trivial⟩ (gw_preS hK hN hP hD) rfl hn hsize hstack (lv_room hW) hdg hf
/-- a constructor -/
theorem gw_rI (S : CallFix p m c cc nL s args Ts own) (hT : ∀ w ∈ wG, w ∈ Ts) (hM : Met l y (Cond.code y bytes maxL none :: wG) rm (gw_Pc D cl tys (.ref b :: As) ws H.size) Qc mc ms free)
    (h1 : Cond.methodLink own index y ∈ wG) (h2 : Cond.instanceMethod y ∈ wG) (h4 : Cond.initialized y.cls ∈ wG) (h5 : Cond.code y bytes maxL none ∈ wG) (hy1 : y.name = "<init>")
    (hd : y.cls ≠ "java/lang/invoke/MethodHandle" ∧ y.cls ≠ "java/lang/invoke/VarHandle" ∧ (parseMethodDescriptor y.desc).map (fun d => d.parameters.length) = some n) (hR : rm.frames + 1 ≤ R.frames ∧ 8 + (maxL + 11) + rm.locals ≤ R.locals) (hrc : rm.cells = mc) (hrs : rm.slots = ms)
    (hK : va_K D cl tys s) (hN : gN s) (hP : va_P D cl ws H) (hD : va_D A ws)
    (hn : As.length = n) (hsize : ls.size = nL) (hstack : st0 = As.reverse ++ .ref b :: rest) (hW : (rest.map fun v => v.category).sum ≤ 8) (hdg : decode cc pc = .ok (.invokespecial index, 3)) (hf : cells + mc ≤ R.cells ∧ slots + ms ≤ R.slots) :
    va_Run p l e R s m args below meth c H locs cells slots mc ms (F0 m pc ls st0) rest (Qc (Value.ref b :: As).toArray) free :=
  va_runI S hM (cwI n S.2.2.2.2 (gd_good hT (gd_c h5)) rfl hrc hrs (S.2.2.2.2 _ (hT _ h4)) (S.2.2.2.2 _ (hT _ h1)) (S.2.2.2.2 _ (hT _ h2)) hy1 hd hR) (gw_preS hK hN hP hD) rfl hn hsize hstack (lv_room hW) hdg hf
end GR
end
section
/-! FRAMES BY PLACES: outside the places a .. b - 1 the list is as it was -/
def gF (a b : Nat) (ws w : va_W) : Prop := (∀ q, q < a ∨ b ≤ q → w[q]? = ws[q]?) ∧ w.length = ws.length
theorem gF.rf {a b : Nat} {ws : va_W} : gF a b ws ws := ⟨fun _ _ => rfl, rfl⟩
theorem gF.at {a b q : Nat} {ws w : va_W} {z : Nat × va_E} (h : gF a b ws w) (hq : ws[q]? = some z) (ho : q < a ∨ b ≤ q) : w[q]? = some z := (h.1 q ho).trans hq
theorem gF.in {a b a' b' : Nat} {ws w w' : va_W} (h : gF a b ws w) (k : gF a' b' w w') (h1 : a ≤ a') (h2 : b' ≤ b) : gF a b ws w' :=
  ⟨fun q hq => (k.1 q (by omega)).trans (h.1 q hq), k.2.trans h.2⟩
theorem gF.set {p : Nat} {ws : va_W} {z : Nat × va_E} : gF p (p + 1) ws (ws.set p z) := ⟨fun q hq => gw_neE (by omega), by simp⟩
theorem gF.wide {a b a' b' : Nat} {ws w : va_W} (k : gF a' b' ws w) (h1 : a ≤ a') (h2 : b' ≤ b) : gF a b ws w := gF.rf.in k h1 h2
/-- a loop's turns -/
def lr_it {α : Type} (g : Nat → α → α) : Nat → α → α
  | 0, a => a
  | k + 1, a => g k (lr_it g k a)
theorem lr_ix {n i j : Nat} (hi : i < n) (hj : j < n) : i * n + j < n * n := by
  have : (i + 1) * n ≤ n * n := Nat.mul_le_mul_right n hi
  rw [Nat.succ_mul] at this
  omega
theorem lr_sq {n : Nat} (h : n ≤ 10) : n * n < 2 ^ 31 := Nat.lt_of_le_of_lt (Nat.mul_le_mul h h) (by decide)
theorem lr_sq1 {n : Nat} (h : n ≤ 10) : n * n ≤ 100 := Nat.mul_le_mul h h
section GA
variable {p : Program} {l : Launch} {e : Env} {R : Room} {s : State} {m : MethodId} {args : Array Value} {below : List Frame} {meth : Method} {c : Code} {H H0 : Heap} {locs : List Loc} {cells slots : Nat} {Q : State → Prop}
variable {D : va_G} {cl : List vw_C} {tys : List (ClassId × FieldType)} {A : Nat → Prop} {ws : va_W} {a mc ms : Nat} {pc : Nat} {ls : Array Slot} {rest st0 : List Value} {cc : ByteArray} {av : Array Value}
theorem g_lald (hx : p.tables.exec = Jvm.exec) (hb : c.code = cc) (hK : va_K D cl tys s) (hP : va_P D cl ws H) {q0 t0 : Nat} {cA : ClassId} {n : Nat} {f : Nat → Int64} (ha : ws[q0]? = some (a, .inl (cA, n, .inr (.inl f)))) (ht : tys[t0]? = some (cA, .long)) {k : Nat} (hk : k < n) (hn : n < 2 ^ 31) (hdg : decode cc pc = .ok (.laload, 1))
    (kk : W p l e R s m args below meth c H locs cells slots Q (F0 m (pc + 1) ls (.long (f k) :: rest))) : W p l e R s m args below meth c H locs cells slots Q (F0 m pc ls (.int (nI k) :: .ref a :: rest)) := by
  refine va_lald hx hb hK hP q0 t0 ha ht (vp_in_nI hk hn) hdg ?_
  rw [nI_clamp (by omega)]
  exact kk
theorem g_iald (hx : p.tables.exec = Jvm.exec) (hb : c.code = cc) (hK : va_K D cl tys s) (hP : va_P D cl ws H) {q0 t0 : Nat} {cA : ClassId} {n : Nat} {f : Nat → Int32} (ha : ws[q0]? = some (a, .inl (cA, n, .inl f))) (ht : tys[t0]? = some (cA, .int)) {k : Nat} (hk : k < n) (hn : n < 2 ^ 31) (hdg : decode cc pc = .ok (.iaload, 1))
    (kk : W p l e R s m args below meth c H locs cells slots Q (F0 m (pc + 1) ls (.int (f k) :: rest))) : W p l e R s m args below meth c H locs cells slots Q (F0 m pc ls (.int (nI k) :: .ref a :: rest)) := by
  refine va_iald hx hb hK hP q0 t0 ha ht (vp_in_nI hk hn) hdg ?_
  rw [nI_clamp (by omega)]
  exact kk
theorem g_zald (hx : p.tables.exec = Jvm.exec) (hb : c.code = cc) (hK : va_K D cl tys s) (hP : va_P D cl ws H) {q0 t0 : Nat} {cA : ClassId} {n : Nat} {f : Nat → Int32} (ha : ws[q0]? = some (a, .inl (cA, n, .inl f))) (ht : tys[t0]? = some (cA, .boolean)) {k : Nat} (hk : k < n) (hn : n < 2 ^ 31) (hdg : decode cc pc = .ok (.baload, 1))
    (kk : W p l e R s m args below meth c H locs cells slots Q (F0 m (pc + 1) ls (.int (f k) :: rest))) : W p l e R s m args below meth c H locs cells slots Q (F0 m pc ls (.int (nI k) :: .ref a :: rest)) := by
  refine va_zald hx hb hK hP q0 t0 ha ht (vp_in_nI hk hn) hdg ?_
  rw [nI_clamp (by omega)]
  exact kk
theorem g_last (hx : p.tables.exec = Jvm.exec) (hb : c.code = cc) (hK : va_K D cl tys s) (hP : va_P D cl ws H) (hD : va_D A ws) (hS : va_S A H0 H locs) {q0 t0 : Nat} {cA : ClassId} {n : Nat} {f : Nat → Int64} (ha : ws[q0]? = some (a, .inl (cA, n, .inr (.inl f)))) (ht : tys[t0]? = some (cA, .long)) {k : Nat} {x : Int64} (hk : k < n) (hn : n < 2 ^ 31) (hdg : decode cc pc = .ok (.lastore, 1))
    (kk : ∀ (w : va_W) (H1 : Heap) (locs1 : List Loc), w[q0]? = some (a, .inl (cA, n, .inr (.inl (vp_updL f k x)))) → gF q0 (q0 + 1) ws w → va_P D cl w H1 → va_D A w → va_S A H0 H1 locs1 → W p l e R s m args below meth c H1 locs1 cells slots Q (F0 m (pc + 1) ls rest)) : W p l e R s m args below meth c H locs cells slots Q (F0 m pc ls (.long x :: .int (nI k) :: .ref a :: rest)) := by
  refine va_last hx hb hK hP hD hS q0 t0 ha ht (vp_in_nI hk hn) hdg (fun H1 locs1 h1 h2 h3 => ?_)
  rw [nI_clamp (by omega)] at h1 h2
  exact kk _ H1 locs1 (gw_eq ha) gF.set h1 h2 h3
theorem g_iast (hx : p.tables.exec = Jvm.exec) (hb : c.code = cc) (hK : va_K D cl tys s) (hP : va_P D cl ws H) (hD : va_D A ws) (hS : va_S A H0 H locs) {q0 t0 : Nat} {cA : ClassId} {n : Nat} {f : Nat → Int32} (ha : ws[q0]? = some (a, .inl (cA, n, .inl f))) (ht : tys[t0]? = some (cA, .int)) {k : Nat} {x : Int32} (hk : k < n) (hn : n < 2 ^ 31) (hdg : decode cc pc = .ok (.iastore, 1))
    (kk : ∀ (w : va_W) (H1 : Heap) (locs1 : List Loc), w[q0]? = some (a, .inl (cA, n, .inl (upd f k x))) → gF q0 (q0 + 1) ws w → va_P D cl w H1 → va_D A w → va_S A H0 H1 locs1 → W p l e R s m args below meth c H1 locs1 cells slots Q (F0 m (pc + 1) ls rest)) : W p l e R s m args below meth c H locs cells slots Q (F0 m pc ls (.int x :: .int (nI k) :: .ref a :: rest)) := by
  refine va_iast hx hb hK hP hD hS q0 t0 ha ht (vp_in_nI hk hn) hdg (fun H1 locs1 h1 h2 h3 => ?_)
  rw [nI_clamp (by omega)] at h1 h2
  exact kk _ H1 locs1 (gw_eq ha) gF.set h1 h2 h3
theorem g_zast (hx : p.tables.exec = Jvm.exec) (hb : c.code = cc) (hK : va_K D cl tys s) (hP : va_P D cl ws H) (hD : va_D A ws) (hS : va_S A H0 H locs) {q0 t0 : Nat} {cA : ClassId} {n : Nat} {f : Nat → Int32} (ha : ws[q0]? = some (a, .inl (cA, n, .inl f))) (ht : tys[t0]? = some (cA, .boolean)) {k : Nat} {x : Int32} (hk : k < n) (hn : n < 2 ^ 31) (hx0 : x = 0 ∨ x = 1) (hdg : decode cc pc = .ok (.bastore, 1))
    (kk : ∀ (w : va_W) (H1 : Heap) (locs1 : List Loc), w[q0]? = some (a, .inl (cA, n, .inl (upd f k x))) → gF q0 (q0 + 1) ws w → va_P D cl w H1 → va_D A w → va_S A H0 H1 locs1 → W p l e R s m args below meth c H1 locs1 cells slots Q (F0 m (pc + 1) ls rest)) : W p l e R s m args below meth c H locs cells slots Q (F0 m pc ls (.int x :: .int (nI k) :: .ref a :: rest)) := by
  have hz : vp_nar .boolean x = x := by rcases hx0 with rfl | rfl <;> decide
  refine va_zast hx hb hK hP hD hS q0 t0 ha ht (vp_in_nI hk hn) hdg (fun H1 locs1 h1 h2 h3 => ?_)
  rw [nI_clamp (by omega), hz] at h1 h2
  exact kk _ H1 locs1 (gw_eq ha) gF.set h1 h2 h3
/-- calls that leave the world -/
theorem gw_ci0 {post : Int32 → Prop} (hr : va_Run p l e R s m args below meth c H locs cells slots mc ms (F0 m pc ls st0) rest (va_Qi (fun r w => post r ∧ w = ws) (gw_B D cl tys ws H.size) (va_A ws H.size) av) (va_A ws H.size)) (hD : va_D A ws) (hS : va_S A H0 H locs) (hA : ∀ q, H0.size ≤ q → A q)
    (kk : ∀ (r : Int32) (H1 : Heap) (locs1 : List Loc), post r → va_P D cl ws H1 → va_D A ws → va_S A H0 H1 locs1 → W p l e R s m args below meth c H1 locs1 (cells + mc) (slots + ms) Q (F0 m (pc + 3) ls (.int r :: rest))) : W p l e R s m args below meth c H locs cells slots Q (F0 m pc ls st0) :=
  gw_ci hr hD hS hA (fun r w H1 locs1 hw hP hD hS => by obtain ⟨h1, rfl⟩ := hw; exact kk r H1 locs1 h1 hP hD hS)
theorem gw_cl0 {post : Int64 → Prop} (hr : va_Run p l e R s m args below meth c H locs cells slots mc ms (F0 m pc ls st0) rest (va_Ql (fun r w => post r ∧ w = ws) (gw_B D cl tys ws H.size) (va_A ws H.size) av) (va_A ws H.size)) (hD : va_D A ws) (hS : va_S A H0 H locs) (hA : ∀ q, H0.size ≤ q → A q)
    (kk : ∀ (r : Int64) (H1 : Heap) (locs1 : List Loc), post r → va_P D cl ws H1 → va_D A ws → va_S A H0 H1 locs1 → W p l e R s m args below meth c H1 locs1 (cells + mc) (slots + ms) Q (F0 m (pc + 3) ls (.long r :: rest))) : W p l e R s m args below meth c H locs cells slots Q (F0 m pc ls st0) :=
  gw_cl hr hD hS hA (fun r w H1 locs1 hw hP hD hS => by obtain ⟨h1, rfl⟩ := hw; exact kk r H1 locs1 h1 hP hD hS)
end GA
/-- a table: the object and its cells -/
def tbAt (cJ : ClassId) (ws : va_W) (j h g n : Nat) (f : Nat → Int64) : Prop := ws[j]? = some (h, .inr (0, [.int (nI n), .ref g])) ∧ ws[j + 1]? = some (g, .inl (cJ, n * n, .inr (.inl f)))
theorem tbAt.kept {cJ : ClassId} {ws w : va_W} {j h g n a b : Nat} {f : Nat → Int64} (ht : tbAt cJ ws j h g n f) (hf : gF a b ws w) (ho : j + 2 ≤ a ∨ b ≤ j) : tbAt cJ w j h g n f := ⟨hf.at ht.1 (by omega), hf.at ht.2 (by omega)⟩
end
section
/-! ROWS BY SITE: a field or a method as an entry of a pool names it; written by program -/
section SF
variable {p : Program} {l : Launch} {e : Env} {R : Room} {s : State} {m : MethodId} {args : Array Value} {below : List Frame} {meth : Method} {c : Code} {H H0 : Heap} {locs : List Loc} {cells slots : Nat} {Q : State → Prop}
variable {D : va_G} {tys : List (ClassId × FieldType)} {A : Nat → Prop} {ws : va_W} {a q0 : Nat} {fs : List Value} {pc nL : Nat} {ls : Array Slot} {rest : List Value} {cc : ByteArray} {Ts : List Cond}
theorem gf_T_9 (hF : CallFix p m c cc nL s args Ts R_T) (hT : ∀ w ∈ wG, w ∈ Ts) (hK : va_K D classes tys s) (hP : va_P D classes ws H) (he : ws[q0]? = some (a, .inr (0, fs))) {v : Value} (hv : fs[0]? = some v) (hdg : decode cc pc = .ok (.getfield 9, 3)) (kk : W p l e R s m args below meth c H locs cells slots Q (F0 m (pc + 3) ls (v :: rest))) : W p l e R s m args below meth c H locs cells slots Q (F0 m pc ls (.ref a :: rest)) :=
  va_get (D := D) (C := R_T) (T := F_T) (N := 2) hF.1 hF.2.1 hF.2.2.2.2 (fun w h => hT w (wu_T w h)) hF.2.2.2.1 hK hP q0 he rfl 0 (by decide) (hF.2.2.2.2 _ (hT _ wm_1_45)) (fun _ h => h) hv hdg kk
theorem gp_T_9 (hF : CallFix p m c cc nL s args Ts R_T) (hT : ∀ w ∈ wG, w ∈ Ts) (hin : meth.name = "<init>") (hK : va_K D classes tys s) (hP : va_P D classes ws H) (hD : va_D A ws) (hS : va_S A H0 H locs) (he : ws[q0]? = some (a, .inr (0, fs))) {v : Value} {fs1 : List Value} (hn : narrow (.int) v = v) (hfit : fits (.int) v = true) (hl : 0 < fs.length) (hfs : fs.set 0 v = fs1) (hdg : decode cc pc = .ok (.putfield 9, 3)) (kk : ∀ (w : va_W) (H1 : Heap) (locs1 : List Loc), w[q0]? = some (a, .inr (0, fs1)) → gF q0 (q0 + 1) ws w → va_P D classes w H1 → va_D A w → va_S A H0 H1 locs1 → W p l e R s m args below meth c H1 locs1 cells slots Q (F0 m (pc + 3) ls rest)) : W p l e R s m args below meth c H locs cells slots Q (F0 m pc ls (v :: .ref a :: rest)) := by
  subst hfs
  exact va_putF (D := D) (C := R_T) (T := F_T) (N := 2) (ty := .int) hF.1 hF.2.1 hF.2.2.2.2 (fun w h => hT w (wu_T w h)) tt_T tt_T_ok n_T hF.2.2.2.1 hK hP hD hS q0 he rfl 0 (by decide) (hF.2.2.2.2 _ (hT _ wm_1_45)) (fun _ h => h) rfl hin rfl (by decide +kernel) hn hfit hl hdg (fun H1 locs1 h1 h2 h3 => kk _ H1 locs1 (gw_eq he) gF.set h1 h2 h3)
theorem gf_T_15 (hF : CallFix p m c cc nL s args Ts R_T) (hT : ∀ w ∈ wG, w ∈ Ts) (hK : va_K D classes tys s) (hP : va_P D classes ws H) (he : ws[q0]? = some (a, .inr (0, fs))) {v : Value} (hv : fs[1]? = some v) (hdg : decode cc pc = .ok (.getfield 15, 3)) (kk : W p l e R s m args below meth c H locs cells slots Q (F0 m (pc + 3) ls (v :: rest))) : W p l e R s m args below meth c H locs cells slots Q (F0 m pc ls (.ref a :: rest)) :=
  va_get (D := D) (C := R_T) (T := F_T) (N := 2) hF.1 hF.2.1 hF.2.2.2.2 (fun w h => hT w (wu_T w h)) hF.2.2.2.1 hK hP q0 he rfl 1 (by decide) (hF.2.2.2.2 _ (hT _ wm_1_46)) (fun _ h => h) hv hdg kk
theorem gp_T_15 (hF : CallFix p m c cc nL s args Ts R_T) (hT : ∀ w ∈ wG, w ∈ Ts) (hin : meth.name = "<init>") (hK : va_K D classes tys s) (hP : va_P D classes ws H) (hD : va_D A ws) (hS : va_S A H0 H locs) (he : ws[q0]? = some (a, .inr (0, fs))) {v : Value} {fs1 : List Value} (hn : narrow (.array .long) v = v) (hfit : fits (.array .long) v = true) (hl : 1 < fs.length) (hfs : fs.set 1 v = fs1) (hdg : decode cc pc = .ok (.putfield 15, 3)) (kk : ∀ (w : va_W) (H1 : Heap) (locs1 : List Loc), w[q0]? = some (a, .inr (0, fs1)) → gF q0 (q0 + 1) ws w → va_P D classes w H1 → va_D A w → va_S A H0 H1 locs1 → W p l e R s m args below meth c H1 locs1 cells slots Q (F0 m (pc + 3) ls rest)) : W p l e R s m args below meth c H locs cells slots Q (F0 m pc ls (v :: .ref a :: rest)) := by
  subst hfs
  exact va_putF (D := D) (C := R_T) (T := F_T) (N := 2) (ty := .array .long) hF.1 hF.2.1 hF.2.2.2.2 (fun w h => hT w (wu_T w h)) tt_T tt_T_ok n_T hF.2.2.2.1 hK hP hD hS q0 he rfl 1 (by decide) (hF.2.2.2.2 _ (hT _ wm_1_46)) (fun _ h => h) rfl hin rfl (by decide +kernel) hn hfit hl hdg (fun H1 locs1 h1 h2 h3 => kk _ H1 locs1 (gw_eq he) gF.set h1 h2 h3)
theorem gf_S_9 (hF : CallFix p m c cc nL s args Ts R_S) (hT : ∀ w ∈ wG, w ∈ Ts) (hK : va_K D classes tys s) (hP : va_P D classes ws H) (he : ws[q0]? = some (a, .inr (1, fs))) {v : Value} (hv : fs[0]? = some v) (hdg : decode cc pc = .ok (.getfield 9, 3)) (kk : W p l e R s m args below meth c H locs cells slots Q (F0 m (pc + 3) ls (v :: rest))) : W p l e R s m args below meth c H locs cells slots Q (F0 m pc ls (.ref a :: rest)) :=
  va_get (D := D) (C := R_S) (T := F_S) (N := 4) hF.1 hF.2.1 hF.2.2.2.2 (fun w h => hT w (wu_S w h)) hF.2.2.2.1 hK hP q0 he rfl 0 (by decide) (hF.2.2.2.2 _ (hT _ wm_1_57)) (fun _ h => h) hv hdg kk
theorem gp_S_9 (hF : CallFix p m c cc nL s args Ts R_S) (hT : ∀ w ∈ wG, w ∈ Ts) (hin : meth.name = "<init>") (hK : va_K D classes tys s) (hP : va_P D classes ws H) (hD : va_D A ws) (hS : va_S A H0 H locs) (he : ws[q0]? = some (a, .inr (1, fs))) {v : Value} {fs1 : List Value} (hn : narrow (.int) v = v) (hfit : fits (.int) v = true) (hl : 0 < fs.length) (hfs : fs.set 0 v = fs1) (hdg : decode cc pc = .ok (.putfield 9, 3)) (kk : ∀ (w : va_W) (H1 : Heap) (locs1 : List Loc), w[q0]? = some (a, .inr (1, fs1)) → gF q0 (q0 + 1) ws w → va_P D classes w H1 → va_D A w → va_S A H0 H1 locs1 → W p l e R s m args below meth c H1 locs1 cells slots Q (F0 m (pc + 3) ls rest)) : W p l e R s m args below meth c H locs cells slots Q (F0 m pc ls (v :: .ref a :: rest)) := by
  subst hfs
  exact va_putF (D := D) (C := R_S) (T := F_S) (N := 4) (ty := .int) hF.1 hF.2.1 hF.2.2.2.2 (fun w h => hT w (wu_S w h)) tt_S tt_S_ok n_S hF.2.2.2.1 hK hP hD hS q0 he rfl 0 (by decide) (hF.2.2.2.2 _ (hT _ wm_1_57)) (fun _ h => h) rfl hin rfl (by decide +kernel) hn hfit hl hdg (fun H1 locs1 h1 h2 h3 => kk _ H1 locs1 (gw_eq he) gF.set h1 h2 h3)
theorem gf_S_20 (hF : CallFix p m c cc nL s args Ts R_S) (hT : ∀ w ∈ wG, w ∈ Ts) (hK : va_K D classes tys s) (hP : va_P D classes ws H) (he : ws[q0]? = some (a, .inr (1, fs))) {v : Value} (hv : fs[1]? = some v) (hdg : decode cc pc = .ok (.getfield 20, 3)) (kk : W p l e R s m args below meth c H locs cells slots Q (F0 m (pc + 3) ls (v :: rest))) : W p l e R s m args below meth c H locs cells slots Q (F0 m pc ls (.ref a :: rest)) :=
  va_get (D := D) (C := R_S) (T := F_S) (N := 4) hF.1 hF.2.1 hF.2.2.2.2 (fun w h => hT w (wu_S w h)) hF.2.2.2.1 hK hP q0 he rfl 1 (by decide) (hF.2.2.2.2 _ (hT _ wm_1_58)) (fun _ h => h) hv hdg kk
theorem gp_S_20 (hF : CallFix p m c cc nL s args Ts R_S) (hT : ∀ w ∈ wG, w ∈ Ts) (hin : meth.name = "<init>") (hK : va_K D classes tys s) (hP : va_P D classes ws H) (hD : va_D A ws) (hS : va_S A H0 H locs) (he : ws[q0]? = some (a, .inr (1, fs))) {v : Value} {fs1 : List Value} (hn : narrow (.object "LinearRows$Table") v = v) (hfit : fits (.object "LinearRows$Table") v = true) (hl : 1 < fs.length) (hfs : fs.set 1 v = fs1) (hdg : decode cc pc = .ok (.putfield 20, 3)) (kk : ∀ (w : va_W) (H1 : Heap) (locs1 : List Loc), w[q0]? = some (a, .inr (1, fs1)) → gF q0 (q0 + 1) ws w → va_P D classes w H1 → va_D A w → va_S A H0 H1 locs1 → W p l e R s m args below meth c H1 locs1 cells slots Q (F0 m (pc + 3) ls rest)) : W p l e R s m args below meth c H locs cells slots Q (F0 m pc ls (v :: .ref a :: rest)) := by
  subst hfs
  exact va_putF (D := D) (C := R_S) (T := F_S) (N := 4) (ty := .object "LinearRows$Table") hF.1 hF.2.1 hF.2.2.2.2 (fun w h => hT w (wu_S w h)) tt_S tt_S_ok n_S hF.2.2.2.1 hK hP hD hS q0 he rfl 1 (by decide) (hF.2.2.2.2 _ (hT _ wm_1_58)) (fun _ h => h) rfl hin rfl (by decide +kernel) hn hfit hl hdg (fun H1 locs1 h1 h2 h3 => kk _ H1 locs1 (gw_eq he) gF.set h1 h2 h3)
theorem gf_X_89 (hF : CallFix p m c cc nL s args Ts R_X) (hT : ∀ w ∈ wG, w ∈ Ts) (hN : gN s) (hK : va_K D classes tys s) (hP : va_P D classes ws H) (he : ws[q0]? = some (a, .inr (1, fs))) {v : Value} (hv : fs[1]? = some v) (hdg : decode cc pc = .ok (.getfield 89, 3)) (kk : W p l e R s m args below meth c H locs cells slots Q (F0 m (pc + 3) ls (v :: rest))) : W p l e R s m args below meth c H locs cells slots Q (F0 m pc ls (.ref a :: rest)) :=
  va_getN (D := D) (C := R_S) (T := F_S) (N := 4) hF.1 hF.2.1 hF.2.2.2.2 (fun w h => hT w (wu_S w h)) hF.2.2.2.1 hK hP q0 he rfl 1 (by decide) (va_Nw.use rfl (gN_0 hN)) (fun _ h => h) hv hdg kk
theorem gf_S_24 (hF : CallFix p m c cc nL s args Ts R_S) (hT : ∀ w ∈ wG, w ∈ Ts) (hK : va_K D classes tys s) (hP : va_P D classes ws H) (he : ws[q0]? = some (a, .inr (1, fs))) {v : Value} (hv : fs[2]? = some v) (hdg : decode cc pc = .ok (.getfield 24, 3)) (kk : W p l e R s m args below meth c H locs cells slots Q (F0 m (pc + 3) ls (v :: rest))) : W p l e R s m args below meth c H locs cells slots Q (F0 m pc ls (.ref a :: rest)) :=
  va_get (D := D) (C := R_S) (T := F_S) (N := 4) hF.1 hF.2.1 hF.2.2.2.2 (fun w h => hT w (wu_S w h)) hF.2.2.2.1 hK hP q0 he rfl 2 (by decide) (hF.2.2.2.2 _ (hT _ wm_1_60)) (fun _ h => h) hv hdg kk
theorem gp_S_24 (hF : CallFix p m c cc nL s args Ts R_S) (hT : ∀ w ∈ wG, w ∈ Ts) (hin : meth.name = "<init>") (hK : va_K D classes tys s) (hP : va_P D classes ws H) (hD : va_D A ws) (hS : va_S A H0 H locs) (he : ws[q0]? = some (a, .inr (1, fs))) {v : Value} {fs1 : List Value} (hn : narrow (.object "LinearRows$Table") v = v) (hfit : fits (.object "LinearRows$Table") v = true) (hl : 2 < fs.length) (hfs : fs.set 2 v = fs1) (hdg : decode cc pc = .ok (.putfield 24, 3)) (kk : ∀ (w : va_W) (H1 : Heap) (locs1 : List Loc), w[q0]? = some (a, .inr (1, fs1)) → gF q0 (q0 + 1) ws w → va_P D classes w H1 → va_D A w → va_S A H0 H1 locs1 → W p l e R s m args below meth c H1 locs1 cells slots Q (F0 m (pc + 3) ls rest)) : W p l e R s m args below meth c H locs cells slots Q (F0 m pc ls (v :: .ref a :: rest)) := by
  subst hfs
  exact va_putF (D := D) (C := R_S) (T := F_S) (N := 4) (ty := .object "LinearRows$Table") hF.1 hF.2.1 hF.2.2.2.2 (fun w h => hT w (wu_S w h)) tt_S tt_S_ok n_S hF.2.2.2.1 hK hP hD hS q0 he rfl 2 (by decide) (hF.2.2.2.2 _ (hT _ wm_1_60)) (fun _ h => h) rfl hin rfl (by decide +kernel) hn hfit hl hdg (fun H1 locs1 h1 h2 h3 => kk _ H1 locs1 (gw_eq he) gF.set h1 h2 h3)
theorem gf_X_127 (hF : CallFix p m c cc nL s args Ts R_X) (hT : ∀ w ∈ wG, w ∈ Ts) (hN : gN s) (hK : va_K D classes tys s) (hP : va_P D classes ws H) (he : ws[q0]? = some (a, .inr (1, fs))) {v : Value} (hv : fs[2]? = some v) (hdg : decode cc pc = .ok (.getfield 127, 3)) (kk : W p l e R s m args below meth c H locs cells slots Q (F0 m (pc + 3) ls (v :: rest))) : W p l e R s m args below meth c H locs cells slots Q (F0 m pc ls (.ref a :: rest)) :=
  va_getN (D := D) (C := R_S) (T := F_S) (N := 4) hF.1 hF.2.1 hF.2.2.2.2 (fun w h => hT w (wu_S w h)) hF.2.2.2.1 hK hP q0 he rfl 2 (by decide) (va_Nw.use rfl (gN_1 hN)) (fun _ h => h) hv hdg kk
theorem gf_S_31 (hF : CallFix p m c cc nL s args Ts R_S) (hT : ∀ w ∈ wG, w ∈ Ts) (hK : va_K D classes tys s) (hP : va_P D classes ws H) (he : ws[q0]? = some (a, .inr (1, fs))) {v : Value} (hv : fs[3]? = some v) (hdg : decode cc pc = .ok (.getfield 31, 3)) (kk : W p l e R s m args below meth c H locs cells slots Q (F0 m (pc + 3) ls (v :: rest))) : W p l e R s m args below meth c H locs cells slots Q (F0 m pc ls (.ref a :: rest)) :=
  va_get (D := D) (C := R_S) (T := F_S) (N := 4) hF.1 hF.2.1 hF.2.2.2.2 (fun w h => hT w (wu_S w h)) hF.2.2.2.1 hK hP q0 he rfl 3 (by decide) (hF.2.2.2.2 _ (hT _ wm_1_62)) (fun _ h => h) hv hdg kk
theorem gp_S_31 (hF : CallFix p m c cc nL s args Ts R_S) (hT : ∀ w ∈ wG, w ∈ Ts) (hK : va_K D classes tys s) (hP : va_P D classes ws H) (hD : va_D A ws) (hS : va_S A H0 H locs) (he : ws[q0]? = some (a, .inr (1, fs))) {v : Value} {fs1 : List Value} (hn : narrow (.boolean) v = v) (hfit : fits (.boolean) v = true) (hl : 3 < fs.length) (hfs : fs.set 3 v = fs1) (hdg : decode cc pc = .ok (.putfield 31, 3)) (kk : ∀ (w : va_W) (H1 : Heap) (locs1 : List Loc), w[q0]? = some (a, .inr (1, fs1)) → gF q0 (q0 + 1) ws w → va_P D classes w H1 → va_D A w → va_S A H0 H1 locs1 → W p l e R s m args below meth c H1 locs1 cells slots Q (F0 m (pc + 3) ls rest)) : W p l e R s m args below meth c H locs cells slots Q (F0 m pc ls (v :: .ref a :: rest)) := by
  subst hfs
  exact va_put (D := D) (C := R_S) (T := F_S) (N := 4) (ty := .boolean) hF.1 hF.2.1 hF.2.2.2.2 (fun w h => hT w (wu_S w h)) tt_S tt_S_ok n_S hF.2.2.2.1 hK hP hD hS q0 he rfl 3 (by decide) (hF.2.2.2.2 _ (hT _ wm_1_62)) (fun _ h => h) rfl (by decide +kernel) hn hfit hl hdg (fun H1 locs1 h1 h2 h3 => kk _ H1 locs1 (gw_eq he) gF.set h1 h2 h3)
theorem gf_X_123 (hF : CallFix p m c cc nL s args Ts R_X) (hT : ∀ w ∈ wG, w ∈ Ts) (hN : gN s) (hK : va_K D classes tys s) (hP : va_P D classes ws H) (he : ws[q0]? = some (a, .inr (1, fs))) {v : Value} (hv : fs[3]? = some v) (hdg : decode cc pc = .ok (.getfield 123, 3)) (kk : W p l e R s m args below meth c H locs cells slots Q (F0 m (pc + 3) ls (v :: rest))) : W p l e R s m args below meth c H locs cells slots Q (F0 m pc ls (.ref a :: rest)) :=
  va_getN (D := D) (C := R_S) (T := F_S) (N := 4) hF.1 hF.2.1 hF.2.2.2.2 (fun w h => hT w (wu_S w h)) hF.2.2.2.1 hK hP q0 he rfl 3 (by decide) (va_Nw.use rfl (gN_2 hN)) (fun _ h => h) hv hdg kk
theorem gf_X_18 (hF : CallFix p m c cc nL s args Ts R_X) (hT : ∀ w ∈ wG, w ∈ Ts) (hK : va_K D classes tys s) (hP : va_P D classes ws H) (he : ws[q0]? = some (a, .inr (2, fs))) {v : Value} (hv : fs[0]? = some v) (hdg : decode cc pc = .ok (.getfield 18, 3)) (kk : W p l e R s m args below meth c H locs cells slots Q (F0 m (pc + 3) ls (v :: rest))) : W p l e R s m args below meth c H locs cells slots Q (F0 m pc ls (.ref a :: rest)) :=
  va_get (D := D) (C := R_X) (T := F_X) (N := 9) hF.1 hF.2.1 hF.2.2.2.2 (fun w h => hT w (wu_X w h)) hF.2.2.2.1 hK hP q0 he rfl 0 (by decide) (hF.2.2.2.2 _ (hT _ wm_1_75)) (fun _ h => h) hv hdg kk
theorem gp_X_18 (hF : CallFix p m c cc nL s args Ts R_X) (hT : ∀ w ∈ wG, w ∈ Ts) (hin : meth.name = "<init>") (hK : va_K D classes tys s) (hP : va_P D classes ws H) (hD : va_D A ws) (hS : va_S A H0 H locs) (he : ws[q0]? = some (a, .inr (2, fs))) {v : Value} {fs1 : List Value} (hn : narrow (.int) v = v) (hfit : fits (.int) v = true) (hl : 0 < fs.length) (hfs : fs.set 0 v = fs1) (hdg : decode cc pc = .ok (.putfield 18, 3)) (kk : ∀ (w : va_W) (H1 : Heap) (locs1 : List Loc), w[q0]? = some (a, .inr (2, fs1)) → gF q0 (q0 + 1) ws w → va_P D classes w H1 → va_D A w → va_S A H0 H1 locs1 → W p l e R s m args below meth c H1 locs1 cells slots Q (F0 m (pc + 3) ls rest)) : W p l e R s m args below meth c H locs cells slots Q (F0 m pc ls (v :: .ref a :: rest)) := by
  subst hfs
  exact va_putF (D := D) (C := R_X) (T := F_X) (N := 9) (ty := .int) hF.1 hF.2.1 hF.2.2.2.2 (fun w h => hT w (wu_X w h)) tt_X tt_X_ok n_X hF.2.2.2.1 hK hP hD hS q0 he rfl 0 (by decide) (hF.2.2.2.2 _ (hT _ wm_1_75)) (fun _ h => h) rfl hin rfl (by decide +kernel) hn hfit hl hdg (fun H1 locs1 h1 h2 h3 => kk _ H1 locs1 (gw_eq he) gF.set h1 h2 h3)
theorem gf_X_22 (hF : CallFix p m c cc nL s args Ts R_X) (hT : ∀ w ∈ wG, w ∈ Ts) (hK : va_K D classes tys s) (hP : va_P D classes ws H) (he : ws[q0]? = some (a, .inr (2, fs))) {v : Value} (hv : fs[1]? = some v) (hdg : decode cc pc = .ok (.getfield 22, 3)) (kk : W p l e R s m args below meth c H locs cells slots Q (F0 m (pc + 3) ls (v :: rest))) : W p l e R s m args below meth c H locs cells slots Q (F0 m pc ls (.ref a :: rest)) :=
  va_get (D := D) (C := R_X) (T := F_X) (N := 9) hF.1 hF.2.1 hF.2.2.2.2 (fun w h => hT w (wu_X w h)) hF.2.2.2.1 hK hP q0 he rfl 1 (by decide) (hF.2.2.2.2 _ (hT _ wm_1_76)) (fun _ h => h) hv hdg kk
theorem gp_X_22 (hF : CallFix p m c cc nL s args Ts R_X) (hT : ∀ w ∈ wG, w ∈ Ts) (hin : meth.name = "<init>") (hK : va_K D classes tys s) (hP : va_P D classes ws H) (hD : va_D A ws) (hS : va_S A H0 H locs) (he : ws[q0]? = some (a, .inr (2, fs))) {v : Value} {fs1 : List Value} (hn : narrow (.int) v = v) (hfit : fits (.int) v = true) (hl : 1 < fs.length) (hfs : fs.set 1 v = fs1) (hdg : decode cc pc = .ok (.putfield 22, 3)) (kk : ∀ (w : va_W) (H1 : Heap) (locs1 : List Loc), w[q0]? = some (a, .inr (2, fs1)) → gF q0 (q0 + 1) ws w → va_P D classes w H1 → va_D A w → va_S A H0 H1 locs1 → W p l e R s m args below meth c H1 locs1 cells slots Q (F0 m (pc + 3) ls rest)) : W p l e R s m args below meth c H locs cells slots Q (F0 m pc ls (v :: .ref a :: rest)) := by
  subst hfs
  exact va_putF (D := D) (C := R_X) (T := F_X) (N := 9) (ty := .int) hF.1 hF.2.1 hF.2.2.2.2 (fun w h => hT w (wu_X w h)) tt_X tt_X_ok n_X hF.2.2.2.1 hK hP hD hS q0 he rfl 1 (by decide) (hF.2.2.2.2 _ (hT _ wm_1_76)) (fun _ h => h) rfl hin rfl (by decide +kernel) hn hfit hl hdg (fun H1 locs1 h1 h2 h3 => kk _ H1 locs1 (gw_eq he) gF.set h1 h2 h3)
theorem gf_X_27 (hF : CallFix p m c cc nL s args Ts R_X) (hT : ∀ w ∈ wG, w ∈ Ts) (hK : va_K D classes tys s) (hP : va_P D classes ws H) (he : ws[q0]? = some (a, .inr (2, fs))) {v : Value} (hv : fs[2]? = some v) (hdg : decode cc pc = .ok (.getfield 27, 3)) (kk : W p l e R s m args below meth c H locs cells slots Q (F0 m (pc + 3) ls (v :: rest))) : W p l e R s m args below meth c H locs cells slots Q (F0 m pc ls (.ref a :: rest)) :=
  va_get (D := D) (C := R_X) (T := F_X) (N := 9) hF.1 hF.2.1 hF.2.2.2.2 (fun w h => hT w (wu_X w h)) hF.2.2.2.1 hK hP q0 he rfl 2 (by decide) (hF.2.2.2.2 _ (hT _ wm_1_77)) (fun _ h => h) hv hdg kk
theorem gp_X_27 (hF : CallFix p m c cc nL s args Ts R_X) (hT : ∀ w ∈ wG, w ∈ Ts) (hin : meth.name = "<init>") (hK : va_K D classes tys s) (hP : va_P D classes ws H) (hD : va_D A ws) (hS : va_S A H0 H locs) (he : ws[q0]? = some (a, .inr (2, fs))) {v : Value} {fs1 : List Value} (hn : narrow (.array (.object "LinearRows$Shape")) v = v) (hfit : fits (.array (.object "LinearRows$Shape")) v = true) (hl : 2 < fs.length) (hfs : fs.set 2 v = fs1) (hdg : decode cc pc = .ok (.putfield 27, 3)) (kk : ∀ (w : va_W) (H1 : Heap) (locs1 : List Loc), w[q0]? = some (a, .inr (2, fs1)) → gF q0 (q0 + 1) ws w → va_P D classes w H1 → va_D A w → va_S A H0 H1 locs1 → W p l e R s m args below meth c H1 locs1 cells slots Q (F0 m (pc + 3) ls rest)) : W p l e R s m args below meth c H locs cells slots Q (F0 m pc ls (v :: .ref a :: rest)) := by
  subst hfs
  exact va_putF (D := D) (C := R_X) (T := F_X) (N := 9) (ty := .array (.object "LinearRows$Shape")) hF.1 hF.2.1 hF.2.2.2.2 (fun w h => hT w (wu_X w h)) tt_X tt_X_ok n_X hF.2.2.2.1 hK hP hD hS q0 he rfl 2 (by decide) (hF.2.2.2.2 _ (hT _ wm_1_77)) (fun _ h => h) rfl hin rfl (by decide +kernel) hn hfit hl hdg (fun H1 locs1 h1 h2 h3 => kk _ H1 locs1 (gw_eq he) gF.set h1 h2 h3)
theorem gf_X_34 (hF : CallFix p m c cc nL s args Ts R_X) (hT : ∀ w ∈ wG, w ∈ Ts) (hK : va_K D classes tys s) (hP : va_P D classes ws H) (he : ws[q0]? = some (a, .inr (2, fs))) {v : Value} (hv : fs[3]? = some v) (hdg : decode cc pc = .ok (.getfield 34, 3)) (kk : W p l e R s m args below meth c H locs cells slots Q (F0 m (pc + 3) ls (v :: rest))) : W p l e R s m args below meth c H locs cells slots Q (F0 m pc ls (.ref a :: rest)) :=
  va_get (D := D) (C := R_X) (T := F_X) (N := 9) hF.1 hF.2.1 hF.2.2.2.2 (fun w h => hT w (wu_X w h)) hF.2.2.2.1 hK hP q0 he rfl 3 (by decide) (hF.2.2.2.2 _ (hT _ wm_1_78)) (fun _ h => h) hv hdg kk
theorem gp_X_34 (hF : CallFix p m c cc nL s args Ts R_X) (hT : ∀ w ∈ wG, w ∈ Ts) (hin : meth.name = "<init>") (hK : va_K D classes tys s) (hP : va_P D classes ws H) (hD : va_D A ws) (hS : va_S A H0 H locs) (he : ws[q0]? = some (a, .inr (2, fs))) {v : Value} {fs1 : List Value} (hn : narrow (.object "LinearRows$Shape") v = v) (hfit : fits (.object "LinearRows$Shape") v = true) (hl : 3 < fs.length) (hfs : fs.set 3 v = fs1) (hdg : decode cc pc = .ok (.putfield 34, 3)) (kk : ∀ (w : va_W) (H1 : Heap) (locs1 : List Loc), w[q0]? = some (a, .inr (2, fs1)) → gF q0 (q0 + 1) ws w → va_P D classes w H1 → va_D A w → va_S A H0 H1 locs1 → W p l e R s m args below meth c H1 locs1 cells slots Q (F0 m (pc + 3) ls rest)) : W p l e R s m args below meth c H locs cells slots Q (F0 m pc ls (v :: .ref a :: rest)) := by
  subst hfs
  exact va_putF (D := D) (C := R_X) (T := F_X) (N := 9) (ty := .object "LinearRows$Shape") hF.1 hF.2.1 hF.2.2.2.2 (fun w h => hT w (wu_X w h)) tt_X tt_X_ok n_X hF.2.2.2.1 hK hP hD hS q0 he rfl 3 (by decide) (hF.2.2.2.2 _ (hT _ wm_1_78)) (fun _ h => h) rfl hin rfl (by decide +kernel) hn hfit hl hdg (fun H1 locs1 h1 h2 h3 => kk _ H1 locs1 (gw_eq he) gF.set h1 h2 h3)
theorem gf_X_41 (hF : CallFix p m c cc nL s args Ts R_X) (hT : ∀ w ∈ wG, w ∈ Ts) (hK : va_K D classes tys s) (hP : va_P D classes ws H) (he : ws[q0]? = some (a, .inr (2, fs))) {v : Value} (hv : fs[4]? = some v) (hdg : decode cc pc = .ok (.getfield 41, 3)) (kk : W p l e R s m args below meth c H locs cells slots Q (F0 m (pc + 3) ls (v :: rest))) : W p l e R s m args below meth c H locs cells slots Q (F0 m pc ls (.ref a :: rest)) :=
  va_get (D := D) (C := R_X) (T := F_X) (N := 9) hF.1 hF.2.1 hF.2.2.2.2 (fun w h => hT w (wu_X w h)) hF.2.2.2.1 hK hP q0 he rfl 4 (by decide) (hF.2.2.2.2 _ (hT _ wm_1_79)) (fun _ h => h) hv hdg kk
theorem gp_X_41 (hF : CallFix p m c cc nL s args Ts R_X) (hT : ∀ w ∈ wG, w ∈ Ts) (hin : meth.name = "<init>") (hK : va_K D classes tys s) (hP : va_P D classes ws H) (hD : va_D A ws) (hS : va_S A H0 H locs) (he : ws[q0]? = some (a, .inr (2, fs))) {v : Value} {fs1 : List Value} (hn : narrow (.object "LinearRows$Table") v = v) (hfit : fits (.object "LinearRows$Table") v = true) (hl : 4 < fs.length) (hfs : fs.set 4 v = fs1) (hdg : decode cc pc = .ok (.putfield 41, 3)) (kk : ∀ (w : va_W) (H1 : Heap) (locs1 : List Loc), w[q0]? = some (a, .inr (2, fs1)) → gF q0 (q0 + 1) ws w → va_P D classes w H1 → va_D A w → va_S A H0 H1 locs1 → W p l e R s m args below meth c H1 locs1 cells slots Q (F0 m (pc + 3) ls rest)) : W p l e R s m args below meth c H locs cells slots Q (F0 m pc ls (v :: .ref a :: rest)) := by
  subst hfs
  exact va_putF (D := D) (C := R_X) (T := F_X) (N := 9) (ty := .object "LinearRows$Table") hF.1 hF.2.1 hF.2.2.2.2 (fun w h => hT w (wu_X w h)) tt_X tt_X_ok n_X hF.2.2.2.1 hK hP hD hS q0 he rfl 4 (by decide) (hF.2.2.2.2 _ (hT _ wm_1_79)) (fun _ h => h) rfl hin rfl (by decide +kernel) hn hfit hl hdg (fun H1 locs1 h1 h2 h3 => kk _ H1 locs1 (gw_eq he) gF.set h1 h2 h3)
theorem gf_X_45 (hF : CallFix p m c cc nL s args Ts R_X) (hT : ∀ w ∈ wG, w ∈ Ts) (hK : va_K D classes tys s) (hP : va_P D classes ws H) (he : ws[q0]? = some (a, .inr (2, fs))) {v : Value} (hv : fs[5]? = some v) (hdg : decode cc pc = .ok (.getfield 45, 3)) (kk : W p l e R s m args below meth c H locs cells slots Q (F0 m (pc + 3) ls (v :: rest))) : W p l e R s m args below meth c H locs cells slots Q (F0 m pc ls (.ref a :: rest)) :=
  va_get (D := D) (C := R_X) (T := F_X) (N := 9) hF.1 hF.2.1 hF.2.2.2.2 (fun w h => hT w (wu_X w h)) hF.2.2.2.1 hK hP q0 he rfl 5 (by decide) (hF.2.2.2.2 _ (hT _ wm_1_80)) (fun _ h => h) hv hdg kk
theorem gp_X_45 (hF : CallFix p m c cc nL s args Ts R_X) (hT : ∀ w ∈ wG, w ∈ Ts) (hin : meth.name = "<init>") (hK : va_K D classes tys s) (hP : va_P D classes ws H) (hD : va_D A ws) (hS : va_S A H0 H locs) (he : ws[q0]? = some (a, .inr (2, fs))) {v : Value} {fs1 : List Value} (hn : narrow (.object "LinearRows$Table") v = v) (hfit : fits (.object "LinearRows$Table") v = true) (hl : 5 < fs.length) (hfs : fs.set 5 v = fs1) (hdg : decode cc pc = .ok (.putfield 45, 3)) (kk : ∀ (w : va_W) (H1 : Heap) (locs1 : List Loc), w[q0]? = some (a, .inr (2, fs1)) → gF q0 (q0 + 1) ws w → va_P D classes w H1 → va_D A w → va_S A H0 H1 locs1 → W p l e R s m args below meth c H1 locs1 cells slots Q (F0 m (pc + 3) ls rest)) : W p l e R s m args below meth c H locs cells slots Q (F0 m pc ls (v :: .ref a :: rest)) := by
  subst hfs
  exact va_putF (D := D) (C := R_X) (T := F_X) (N := 9) (ty := .object "LinearRows$Table") hF.1 hF.2.1 hF.2.2.2.2 (fun w h => hT w (wu_X w h)) tt_X tt_X_ok n_X hF.2.2.2.1 hK hP hD hS q0 he rfl 5 (by decide) (hF.2.2.2.2 _ (hT _ wm_1_80)) (fun _ h => h) rfl hin rfl (by decide +kernel) hn hfit hl hdg (fun H1 locs1 h1 h2 h3 => kk _ H1 locs1 (gw_eq he) gF.set h1 h2 h3)
theorem gf_X_48 (hF : CallFix p m c cc nL s args Ts R_X) (hT : ∀ w ∈ wG, w ∈ Ts) (hK : va_K D classes tys s) (hP : va_P D classes ws H) (he : ws[q0]? = some (a, .inr (2, fs))) {v : Value} (hv : fs[6]? = some v) (hdg : decode cc pc = .ok (.getfield 48, 3)) (kk : W p l e R s m args below meth c H locs cells slots Q (F0 m (pc + 3) ls (v :: rest))) : W p l e R s m args below meth c H locs cells slots Q (F0 m pc ls (.ref a :: rest)) :=
  va_get (D := D) (C := R_X) (T := F_X) (N := 9) hF.1 hF.2.1 hF.2.2.2.2 (fun w h => hT w (wu_X w h)) hF.2.2.2.1 hK hP q0 he rfl 6 (by decide) (hF.2.2.2.2 _ (hT _ wm_1_81)) (fun _ h => h) hv hdg kk
theorem gp_X_48 (hF : CallFix p m c cc nL s args Ts R_X) (hT : ∀ w ∈ wG, w ∈ Ts) (hin : meth.name = "<init>") (hK : va_K D classes tys s) (hP : va_P D classes ws H) (hD : va_D A ws) (hS : va_S A H0 H locs) (he : ws[q0]? = some (a, .inr (2, fs))) {v : Value} {fs1 : List Value} (hn : narrow (.array .long) v = v) (hfit : fits (.array .long) v = true) (hl : 6 < fs.length) (hfs : fs.set 6 v = fs1) (hdg : decode cc pc = .ok (.putfield 48, 3)) (kk : ∀ (w : va_W) (H1 : Heap) (locs1 : List Loc), w[q0]? = some (a, .inr (2, fs1)) → gF q0 (q0 + 1) ws w → va_P D classes w H1 → va_D A w → va_S A H0 H1 locs1 → W p l e R s m args below meth c H1 locs1 cells slots Q (F0 m (pc + 3) ls rest)) : W p l e R s m args below meth c H locs cells slots Q (F0 m pc ls (v :: .ref a :: rest)) := by
  subst hfs
  exact va_putF (D := D) (C := R_X) (T := F_X) (N := 9) (ty := .array .long) hF.1 hF.2.1 hF.2.2.2.2 (fun w h => hT w (wu_X w h)) tt_X tt_X_ok n_X hF.2.2.2.1 hK hP hD hS q0 he rfl 6 (by decide) (hF.2.2.2.2 _ (hT _ wm_1_81)) (fun _ h => h) rfl hin rfl (by decide +kernel) hn hfit hl hdg (fun H1 locs1 h1 h2 h3 => kk _ H1 locs1 (gw_eq he) gF.set h1 h2 h3)
theorem gf_X_52 (hF : CallFix p m c cc nL s args Ts R_X) (hT : ∀ w ∈ wG, w ∈ Ts) (hK : va_K D classes tys s) (hP : va_P D classes ws H) (he : ws[q0]? = some (a, .inr (2, fs))) {v : Value} (hv : fs[7]? = some v) (hdg : decode cc pc = .ok (.getfield 52, 3)) (kk : W p l e R s m args below meth c H locs cells slots Q (F0 m (pc + 3) ls (v :: rest))) : W p l e R s m args below meth c H locs cells slots Q (F0 m pc ls (.ref a :: rest)) :=
  va_get (D := D) (C := R_X) (T := F_X) (N := 9) hF.1 hF.2.1 hF.2.2.2.2 (fun w h => hT w (wu_X w h)) hF.2.2.2.1 hK hP q0 he rfl 7 (by decide) (hF.2.2.2.2 _ (hT _ wm_1_82)) (fun _ h => h) hv hdg kk
theorem gp_X_52 (hF : CallFix p m c cc nL s args Ts R_X) (hT : ∀ w ∈ wG, w ∈ Ts) (hin : meth.name = "<init>") (hK : va_K D classes tys s) (hP : va_P D classes ws H) (hD : va_D A ws) (hS : va_S A H0 H locs) (he : ws[q0]? = some (a, .inr (2, fs))) {v : Value} {fs1 : List Value} (hn : narrow (.array .long) v = v) (hfit : fits (.array .long) v = true) (hl : 7 < fs.length) (hfs : fs.set 7 v = fs1) (hdg : decode cc pc = .ok (.putfield 52, 3)) (kk : ∀ (w : va_W) (H1 : Heap) (locs1 : List Loc), w[q0]? = some (a, .inr (2, fs1)) → gF q0 (q0 + 1) ws w → va_P D classes w H1 → va_D A w → va_S A H0 H1 locs1 → W p l e R s m args below meth c H1 locs1 cells slots Q (F0 m (pc + 3) ls rest)) : W p l e R s m args below meth c H locs cells slots Q (F0 m pc ls (v :: .ref a :: rest)) := by
  subst hfs
  exact va_putF (D := D) (C := R_X) (T := F_X) (N := 9) (ty := .array .long) hF.1 hF.2.1 hF.2.2.2.2 (fun w h => hT w (wu_X w h)) tt_X tt_X_ok n_X hF.2.2.2.1 hK hP hD hS q0 he rfl 7 (by decide) (hF.2.2.2.2 _ (hT _ wm_1_82)) (fun _ h => h) rfl hin rfl (by decide +kernel) hn hfit hl hdg (fun H1 locs1 h1 h2 h3 => kk _ H1 locs1 (gw_eq he) gF.set h1 h2 h3)
theorem gf_X_55 (hF : CallFix p m c cc nL s args Ts R_X) (hT : ∀ w ∈ wG, w ∈ Ts) (hK : va_K D classes tys s) (hP : va_P D classes ws H) (he : ws[q0]? = some (a, .inr (2, fs))) {v : Value} (hv : fs[8]? = some v) (hdg : decode cc pc = .ok (.getfield 55, 3)) (kk : W p l e R s m args below meth c H locs cells slots Q (F0 m (pc + 3) ls (v :: rest))) : W p l e R s m args below meth c H locs cells slots Q (F0 m pc ls (.ref a :: rest)) :=
  va_get (D := D) (C := R_X) (T := F_X) (N := 9) hF.1 hF.2.1 hF.2.2.2.2 (fun w h => hT w (wu_X w h)) hF.2.2.2.1 hK hP q0 he rfl 8 (by decide) (hF.2.2.2.2 _ (hT _ wm_1_83)) (fun _ h => h) hv hdg kk
theorem gp_X_55 (hF : CallFix p m c cc nL s args Ts R_X) (hT : ∀ w ∈ wG, w ∈ Ts) (hK : va_K D classes tys s) (hP : va_P D classes ws H) (hD : va_D A ws) (hS : va_S A H0 H locs) (he : ws[q0]? = some (a, .inr (2, fs))) {v : Value} {fs1 : List Value} (hn : narrow (.int) v = v) (hfit : fits (.int) v = true) (hl : 8 < fs.length) (hfs : fs.set 8 v = fs1) (hdg : decode cc pc = .ok (.putfield 55, 3)) (kk : ∀ (w : va_W) (H1 : Heap) (locs1 : List Loc), w[q0]? = some (a, .inr (2, fs1)) → gF q0 (q0 + 1) ws w → va_P D classes w H1 → va_D A w → va_S A H0 H1 locs1 → W p l e R s m args below meth c H1 locs1 cells slots Q (F0 m (pc + 3) ls rest)) : W p l e R s m args below meth c H locs cells slots Q (F0 m pc ls (v :: .ref a :: rest)) := by
  subst hfs
  exact va_put (D := D) (C := R_X) (T := F_X) (N := 9) (ty := .int) hF.1 hF.2.1 hF.2.2.2.2 (fun w h => hT w (wu_X w h)) tt_X tt_X_ok n_X hF.2.2.2.1 hK hP hD hS q0 he rfl 8 (by decide) (hF.2.2.2.2 _ (hT _ wm_1_83)) (fun _ h => h) rfl (by decide +kernel) hn hfit hl hdg (fun H1 locs1 h1 h2 h3 => kk _ H1 locs1 (gw_eq he) gF.set h1 h2 h3)
theorem gf_M_48 (hF : CallFix p m c cc nL s args Ts R_M) (hT : ∀ w ∈ wG, w ∈ Ts) (hK : va_K D classes tys s) (hP : va_P D classes ws H) (he : ws[q0]? = some (a, .inr (3, fs))) {v : Value} (hv : fs[0]? = some v) (hdg : decode cc pc = .ok (.getfield 48, 3)) (kk : W p l e R s m args below meth c H locs cells slots Q (F0 m (pc + 3) ls (v :: rest))) : W p l e R s m args below meth c H locs cells slots Q (F0 m pc ls (.ref a :: rest)) :=
  va_get (D := D) (C := R_M) (T := F_M) (N := 13) hF.1 hF.2.1 hF.2.2.2.2 (fun w h => hT w (wu_M w h)) hF.2.2.2.1 hK hP q0 he rfl 0 (by decide) (hF.2.2.2.2 _ (hT _ wm_3_125)) (fun _ h => h) hv hdg kk
theorem gp_M_48 (hF : CallFix p m c cc nL s args Ts R_M) (hT : ∀ w ∈ wG, w ∈ Ts) (hK : va_K D classes tys s) (hP : va_P D classes ws H) (hD : va_D A ws) (hS : va_S A H0 H locs) (he : ws[q0]? = some (a, .inr (3, fs))) {v : Value} {fs1 : List Value} (hn : narrow (.int) v = v) (hfit : fits (.int) v = true) (hl : 0 < fs.length) (hfs : fs.set 0 v = fs1) (hdg : decode cc pc = .ok (.putfield 48, 3)) (kk : ∀ (w : va_W) (H1 : Heap) (locs1 : List Loc), w[q0]? = some (a, .inr (3, fs1)) → gF q0 (q0 + 1) ws w → va_P D classes w H1 → va_D A w → va_S A H0 H1 locs1 → W p l e R s m args below meth c H1 locs1 cells slots Q (F0 m (pc + 3) ls rest)) : W p l e R s m args below meth c H locs cells slots Q (F0 m pc ls (v :: .ref a :: rest)) := by
  subst hfs
  exact va_put (D := D) (C := R_M) (T := F_M) (N := 13) (ty := .int) hF.1 hF.2.1 hF.2.2.2.2 (fun w h => hT w (wu_M w h)) tt_M tt_M_ok n_M hF.2.2.2.1 hK hP hD hS q0 he rfl 0 (by decide) (hF.2.2.2.2 _ (hT _ wm_3_125)) (fun _ h => h) rfl (by decide +kernel) hn hfit hl hdg (fun H1 locs1 h1 h2 h3 => kk _ H1 locs1 (gw_eq he) gF.set h1 h2 h3)
theorem gf_M_42 (hF : CallFix p m c cc nL s args Ts R_M) (hT : ∀ w ∈ wG, w ∈ Ts) (hK : va_K D classes tys s) (hP : va_P D classes ws H) (he : ws[q0]? = some (a, .inr (3, fs))) {v : Value} (hv : fs[1]? = some v) (hdg : decode cc pc = .ok (.getfield 42, 3)) (kk : W p l e R s m args below meth c H locs cells slots Q (F0 m (pc + 3) ls (v :: rest))) : W p l e R s m args below meth c H locs cells slots Q (F0 m pc ls (.ref a :: rest)) :=
  va_get (D := D) (C := R_M) (T := F_M) (N := 13) hF.1 hF.2.1 hF.2.2.2.2 (fun w h => hT w (wu_M w h)) hF.2.2.2.1 hK hP q0 he rfl 1 (by decide) (hF.2.2.2.2 _ (hT _ wm_3_126)) (fun _ h => h) hv hdg kk
theorem gp_M_42 (hF : CallFix p m c cc nL s args Ts R_M) (hT : ∀ w ∈ wG, w ∈ Ts) (hin : meth.name = "<init>") (hK : va_K D classes tys s) (hP : va_P D classes ws H) (hD : va_D A ws) (hS : va_S A H0 H locs) (he : ws[q0]? = some (a, .inr (3, fs))) {v : Value} {fs1 : List Value} (hn : narrow (.int) v = v) (hfit : fits (.int) v = true) (hl : 1 < fs.length) (hfs : fs.set 1 v = fs1) (hdg : decode cc pc = .ok (.putfield 42, 3)) (kk : ∀ (w : va_W) (H1 : Heap) (locs1 : List Loc), w[q0]? = some (a, .inr (3, fs1)) → gF q0 (q0 + 1) ws w → va_P D classes w H1 → va_D A w → va_S A H0 H1 locs1 → W p l e R s m args below meth c H1 locs1 cells slots Q (F0 m (pc + 3) ls rest)) : W p l e R s m args below meth c H locs cells slots Q (F0 m pc ls (v :: .ref a :: rest)) := by
  subst hfs
  exact va_putF (D := D) (C := R_M) (T := F_M) (N := 13) (ty := .int) hF.1 hF.2.1 hF.2.2.2.2 (fun w h => hT w (wu_M w h)) tt_M tt_M_ok n_M hF.2.2.2.1 hK hP hD hS q0 he rfl 1 (by decide) (hF.2.2.2.2 _ (hT _ wm_3_126)) (fun _ h => h) rfl hin rfl (by decide +kernel) hn hfit hl hdg (fun H1 locs1 h1 h2 h3 => kk _ H1 locs1 (gw_eq he) gF.set h1 h2 h3)
theorem gf_M_7 (hF : CallFix p m c cc nL s args Ts R_M) (hT : ∀ w ∈ wG, w ∈ Ts) (hK : va_K D classes tys s) (hP : va_P D classes ws H) (he : ws[q0]? = some (a, .inr (3, fs))) {v : Value} (hv : fs[2]? = some v) (hdg : decode cc pc = .ok (.getfield 7, 3)) (kk : W p l e R s m args below meth c H locs cells slots Q (F0 m (pc + 3) ls (v :: rest))) : W p l e R s m args below meth c H locs cells slots Q (F0 m pc ls (.ref a :: rest)) :=
  va_get (D := D) (C := R_M) (T := F_M) (N := 13) hF.1 hF.2.1 hF.2.2.2.2 (fun w h => hT w (wu_M w h)) hF.2.2.2.1 hK hP q0 he rfl 2 (by decide) (hF.2.2.2.2 _ (hT _ wm_3_127)) (fun _ h => h) hv hdg kk
theorem gp_M_7 (hF : CallFix p m c cc nL s args Ts R_M) (hT : ∀ w ∈ wG, w ∈ Ts) (hin : meth.name = "<init>") (hK : va_K D classes tys s) (hP : va_P D classes ws H) (hD : va_D A ws) (hS : va_S A H0 H locs) (he : ws[q0]? = some (a, .inr (3, fs))) {v : Value} {fs1 : List Value} (hn : narrow (.array .long) v = v) (hfit : fits (.array .long) v = true) (hl : 2 < fs.length) (hfs : fs.set 2 v = fs1) (hdg : decode cc pc = .ok (.putfield 7, 3)) (kk : ∀ (w : va_W) (H1 : Heap) (locs1 : List Loc), w[q0]? = some (a, .inr (3, fs1)) → gF q0 (q0 + 1) ws w → va_P D classes w H1 → va_D A w → va_S A H0 H1 locs1 → W p l e R s m args below meth c H1 locs1 cells slots Q (F0 m (pc + 3) ls rest)) : W p l e R s m args below meth c H locs cells slots Q (F0 m pc ls (v :: .ref a :: rest)) := by
  subst hfs
  exact va_putF (D := D) (C := R_M) (T := F_M) (N := 13) (ty := .array .long) hF.1 hF.2.1 hF.2.2.2.2 (fun w h => hT w (wu_M w h)) tt_M tt_M_ok n_M hF.2.2.2.1 hK hP hD hS q0 he rfl 2 (by decide) (hF.2.2.2.2 _ (hT _ wm_3_127)) (fun _ h => h) rfl hin rfl (by decide +kernel) hn hfit hl hdg (fun H1 locs1 h1 h2 h3 => kk _ H1 locs1 (gw_eq he) gF.set h1 h2 h3)
theorem gf_M_13 (hF : CallFix p m c cc nL s args Ts R_M) (hT : ∀ w ∈ wG, w ∈ Ts) (hK : va_K D classes tys s) (hP : va_P D classes ws H) (he : ws[q0]? = some (a, .inr (3, fs))) {v : Value} (hv : fs[3]? = some v) (hdg : decode cc pc = .ok (.getfield 13, 3)) (kk : W p l e R s m args below meth c H locs cells slots Q (F0 m (pc + 3) ls (v :: rest))) : W p l e R s m args below meth c H locs cells slots Q (F0 m pc ls (.ref a :: rest)) :=
  va_get (D := D) (C := R_M) (T := F_M) (N := 13) hF.1 hF.2.1 hF.2.2.2.2 (fun w h => hT w (wu_M w h)) hF.2.2.2.1 hK hP q0 he rfl 3 (by decide) (hF.2.2.2.2 _ (hT _ wm_3_128)) (fun _ h => h) hv hdg kk
theorem gp_M_13 (hF : CallFix p m c cc nL s args Ts R_M) (hT : ∀ w ∈ wG, w ∈ Ts) (hin : meth.name = "<init>") (hK : va_K D classes tys s) (hP : va_P D classes ws H) (hD : va_D A ws) (hS : va_S A H0 H locs) (he : ws[q0]? = some (a, .inr (3, fs))) {v : Value} {fs1 : List Value} (hn : narrow (.array .boolean) v = v) (hfit : fits (.array .boolean) v = true) (hl : 3 < fs.length) (hfs : fs.set 3 v = fs1) (hdg : decode cc pc = .ok (.putfield 13, 3)) (kk : ∀ (w : va_W) (H1 : Heap) (locs1 : List Loc), w[q0]? = some (a, .inr (3, fs1)) → gF q0 (q0 + 1) ws w → va_P D classes w H1 → va_D A w → va_S A H0 H1 locs1 → W p l e R s m args below meth c H1 locs1 cells slots Q (F0 m (pc + 3) ls rest)) : W p l e R s m args below meth c H locs cells slots Q (F0 m pc ls (v :: .ref a :: rest)) := by
  subst hfs
  exact va_putF (D := D) (C := R_M) (T := F_M) (N := 13) (ty := .array .boolean) hF.1 hF.2.1 hF.2.2.2.2 (fun w h => hT w (wu_M w h)) tt_M tt_M_ok n_M hF.2.2.2.1 hK hP hD hS q0 he rfl 3 (by decide) (hF.2.2.2.2 _ (hT _ wm_3_128)) (fun _ h => h) rfl hin rfl (by decide +kernel) hn hfit hl hdg (fun H1 locs1 h1 h2 h3 => kk _ H1 locs1 (gw_eq he) gF.set h1 h2 h3)
theorem gf_M_17 (hF : CallFix p m c cc nL s args Ts R_M) (hT : ∀ w ∈ wG, w ∈ Ts) (hK : va_K D classes tys s) (hP : va_P D classes ws H) (he : ws[q0]? = some (a, .inr (3, fs))) {v : Value} (hv : fs[4]? = some v) (hdg : decode cc pc = .ok (.getfield 17, 3)) (kk : W p l e R s m args below meth c H locs cells slots Q (F0 m (pc + 3) ls (v :: rest))) : W p l e R s m args below meth c H locs cells slots Q (F0 m pc ls (.ref a :: rest)) :=
  va_get (D := D) (C := R_M) (T := F_M) (N := 13) hF.1 hF.2.1 hF.2.2.2.2 (fun w h => hT w (wu_M w h)) hF.2.2.2.1 hK hP q0 he rfl 4 (by decide) (hF.2.2.2.2 _ (hT _ wm_3_129)) (fun _ h => h) hv hdg kk
theorem gp_M_17 (hF : CallFix p m c cc nL s args Ts R_M) (hT : ∀ w ∈ wG, w ∈ Ts) (hin : meth.name = "<init>") (hK : va_K D classes tys s) (hP : va_P D classes ws H) (hD : va_D A ws) (hS : va_S A H0 H locs) (he : ws[q0]? = some (a, .inr (3, fs))) {v : Value} {fs1 : List Value} (hn : narrow (.array .long) v = v) (hfit : fits (.array .long) v = true) (hl : 4 < fs.length) (hfs : fs.set 4 v = fs1) (hdg : decode cc pc = .ok (.putfield 17, 3)) (kk : ∀ (w : va_W) (H1 : Heap) (locs1 : List Loc), w[q0]? = some (a, .inr (3, fs1)) → gF q0 (q0 + 1) ws w → va_P D classes w H1 → va_D A w → va_S A H0 H1 locs1 → W p l e R s m args below meth c H1 locs1 cells slots Q (F0 m (pc + 3) ls rest)) : W p l e R s m args below meth c H locs cells slots Q (F0 m pc ls (v :: .ref a :: rest)) := by
  subst hfs
  exact va_putF (D := D) (C := R_M) (T := F_M) (N := 13) (ty := .array .long) hF.1 hF.2.1 hF.2.2.2.2 (fun w h => hT w (wu_M w h)) tt_M tt_M_ok n_M hF.2.2.2.1 hK hP hD hS q0 he rfl 4 (by decide) (hF.2.2.2.2 _ (hT _ wm_3_129)) (fun _ h => h) rfl hin rfl (by decide +kernel) hn hfit hl hdg (fun H1 locs1 h1 h2 h3 => kk _ H1 locs1 (gw_eq he) gF.set h1 h2 h3)
theorem gf_M_20 (hF : CallFix p m c cc nL s args Ts R_M) (hT : ∀ w ∈ wG, w ∈ Ts) (hK : va_K D classes tys s) (hP : va_P D classes ws H) (he : ws[q0]? = some (a, .inr (3, fs))) {v : Value} (hv : fs[5]? = some v) (hdg : decode cc pc = .ok (.getfield 20, 3)) (kk : W p l e R s m args below meth c H locs cells slots Q (F0 m (pc + 3) ls (v :: rest))) : W p l e R s m args below meth c H locs cells slots Q (F0 m pc ls (.ref a :: rest)) :=
  va_get (D := D) (C := R_M) (T := F_M) (N := 13) hF.1 hF.2.1 hF.2.2.2.2 (fun w h => hT w (wu_M w h)) hF.2.2.2.1 hK hP q0 he rfl 5 (by decide) (hF.2.2.2.2 _ (hT _ wm_3_130)) (fun _ h => h) hv hdg kk
theorem gp_M_20 (hF : CallFix p m c cc nL s args Ts R_M) (hT : ∀ w ∈ wG, w ∈ Ts) (hin : meth.name = "<init>") (hK : va_K D classes tys s) (hP : va_P D classes ws H) (hD : va_D A ws) (hS : va_S A H0 H locs) (he : ws[q0]? = some (a, .inr (3, fs))) {v : Value} {fs1 : List Value} (hn : narrow (.array .long) v = v) (hfit : fits (.array .long) v = true) (hl : 5 < fs.length) (hfs : fs.set 5 v = fs1) (hdg : decode cc pc = .ok (.putfield 20, 3)) (kk : ∀ (w : va_W) (H1 : Heap) (locs1 : List Loc), w[q0]? = some (a, .inr (3, fs1)) → gF q0 (q0 + 1) ws w → va_P D classes w H1 → va_D A w → va_S A H0 H1 locs1 → W p l e R s m args below meth c H1 locs1 cells slots Q (F0 m (pc + 3) ls rest)) : W p l e R s m args below meth c H locs cells slots Q (F0 m pc ls (v :: .ref a :: rest)) := by
  subst hfs
  exact va_putF (D := D) (C := R_M) (T := F_M) (N := 13) (ty := .array .long) hF.1 hF.2.1 hF.2.2.2.2 (fun w h => hT w (wu_M w h)) tt_M tt_M_ok n_M hF.2.2.2.1 hK hP hD hS q0 he rfl 5 (by decide) (hF.2.2.2.2 _ (hT _ wm_3_130)) (fun _ h => h) rfl hin rfl (by decide +kernel) hn hfit hl hdg (fun H1 locs1 h1 h2 h3 => kk _ H1 locs1 (gw_eq he) gF.set h1 h2 h3)
theorem gf_M_23 (hF : CallFix p m c cc nL s args Ts R_M) (hT : ∀ w ∈ wG, w ∈ Ts) (hK : va_K D classes tys s) (hP : va_P D classes ws H) (he : ws[q0]? = some (a, .inr (3, fs))) {v : Value} (hv : fs[6]? = some v) (hdg : decode cc pc = .ok (.getfield 23, 3)) (kk : W p l e R s m args below meth c H locs cells slots Q (F0 m (pc + 3) ls (v :: rest))) : W p l e R s m args below meth c H locs cells slots Q (F0 m pc ls (.ref a :: rest)) :=
  va_get (D := D) (C := R_M) (T := F_M) (N := 13) hF.1 hF.2.1 hF.2.2.2.2 (fun w h => hT w (wu_M w h)) hF.2.2.2.1 hK hP q0 he rfl 6 (by decide) (hF.2.2.2.2 _ (hT _ wm_3_131)) (fun _ h => h) hv hdg kk
theorem gp_M_23 (hF : CallFix p m c cc nL s args Ts R_M) (hT : ∀ w ∈ wG, w ∈ Ts) (hin : meth.name = "<init>") (hK : va_K D classes tys s) (hP : va_P D classes ws H) (hD : va_D A ws) (hS : va_S A H0 H locs) (he : ws[q0]? = some (a, .inr (3, fs))) {v : Value} {fs1 : List Value} (hn : narrow (.array .long) v = v) (hfit : fits (.array .long) v = true) (hl : 6 < fs.length) (hfs : fs.set 6 v = fs1) (hdg : decode cc pc = .ok (.putfield 23, 3)) (kk : ∀ (w : va_W) (H1 : Heap) (locs1 : List Loc), w[q0]? = some (a, .inr (3, fs1)) → gF q0 (q0 + 1) ws w → va_P D classes w H1 → va_D A w → va_S A H0 H1 locs1 → W p l e R s m args below meth c H1 locs1 cells slots Q (F0 m (pc + 3) ls rest)) : W p l e R s m args below meth c H locs cells slots Q (F0 m pc ls (v :: .ref a :: rest)) := by
  subst hfs
  exact va_putF (D := D) (C := R_M) (T := F_M) (N := 13) (ty := .array .long) hF.1 hF.2.1 hF.2.2.2.2 (fun w h => hT w (wu_M w h)) tt_M tt_M_ok n_M hF.2.2.2.1 hK hP hD hS q0 he rfl 6 (by decide) (hF.2.2.2.2 _ (hT _ wm_3_131)) (fun _ h => h) rfl hin rfl (by decide +kernel) hn hfit hl hdg (fun H1 locs1 h1 h2 h3 => kk _ H1 locs1 (gw_eq he) gF.set h1 h2 h3)
theorem gf_M_26 (hF : CallFix p m c cc nL s args Ts R_M) (hT : ∀ w ∈ wG, w ∈ Ts) (hK : va_K D classes tys s) (hP : va_P D classes ws H) (he : ws[q0]? = some (a, .inr (3, fs))) {v : Value} (hv : fs[7]? = some v) (hdg : decode cc pc = .ok (.getfield 26, 3)) (kk : W p l e R s m args below meth c H locs cells slots Q (F0 m (pc + 3) ls (v :: rest))) : W p l e R s m args below meth c H locs cells slots Q (F0 m pc ls (.ref a :: rest)) :=
  va_get (D := D) (C := R_M) (T := F_M) (N := 13) hF.1 hF.2.1 hF.2.2.2.2 (fun w h => hT w (wu_M w h)) hF.2.2.2.1 hK hP q0 he rfl 7 (by decide) (hF.2.2.2.2 _ (hT _ wm_3_132)) (fun _ h => h) hv hdg kk
theorem gp_M_26 (hF : CallFix p m c cc nL s args Ts R_M) (hT : ∀ w ∈ wG, w ∈ Ts) (hin : meth.name = "<init>") (hK : va_K D classes tys s) (hP : va_P D classes ws H) (hD : va_D A ws) (hS : va_S A H0 H locs) (he : ws[q0]? = some (a, .inr (3, fs))) {v : Value} {fs1 : List Value} (hn : narrow (.array .long) v = v) (hfit : fits (.array .long) v = true) (hl : 7 < fs.length) (hfs : fs.set 7 v = fs1) (hdg : decode cc pc = .ok (.putfield 26, 3)) (kk : ∀ (w : va_W) (H1 : Heap) (locs1 : List Loc), w[q0]? = some (a, .inr (3, fs1)) → gF q0 (q0 + 1) ws w → va_P D classes w H1 → va_D A w → va_S A H0 H1 locs1 → W p l e R s m args below meth c H1 locs1 cells slots Q (F0 m (pc + 3) ls rest)) : W p l e R s m args below meth c H locs cells slots Q (F0 m pc ls (v :: .ref a :: rest)) := by
  subst hfs
  exact va_putF (D := D) (C := R_M) (T := F_M) (N := 13) (ty := .array .long) hF.1 hF.2.1 hF.2.2.2.2 (fun w h => hT w (wu_M w h)) tt_M tt_M_ok n_M hF.2.2.2.1 hK hP hD hS q0 he rfl 7 (by decide) (hF.2.2.2.2 _ (hT _ wm_3_132)) (fun _ h => h) rfl hin rfl (by decide +kernel) hn hfit hl hdg (fun H1 locs1 h1 h2 h3 => kk _ H1 locs1 (gw_eq he) gF.set h1 h2 h3)
theorem gf_M_150 (hF : CallFix p m c cc nL s args Ts R_M) (hT : ∀ w ∈ wG, w ∈ Ts) (hK : va_K D classes tys s) (hP : va_P D classes ws H) (he : ws[q0]? = some (a, .inr (3, fs))) {v : Value} (hv : fs[8]? = some v) (hdg : decode cc pc = .ok (.getfield 150, 3)) (kk : W p l e R s m args below meth c H locs cells slots Q (F0 m (pc + 3) ls (v :: rest))) : W p l e R s m args below meth c H locs cells slots Q (F0 m pc ls (.ref a :: rest)) :=
  va_get (D := D) (C := R_M) (T := F_M) (N := 13) hF.1 hF.2.1 hF.2.2.2.2 (fun w h => hT w (wu_M w h)) hF.2.2.2.1 hK hP q0 he rfl 8 (by decide) (hF.2.2.2.2 _ (hT _ wm_3_133)) (fun _ h => h) hv hdg kk
theorem gp_M_150 (hF : CallFix p m c cc nL s args Ts R_M) (hT : ∀ w ∈ wG, w ∈ Ts) (hK : va_K D classes tys s) (hP : va_P D classes ws H) (hD : va_D A ws) (hS : va_S A H0 H locs) (he : ws[q0]? = some (a, .inr (3, fs))) {v : Value} {fs1 : List Value} (hn : narrow (.int) v = v) (hfit : fits (.int) v = true) (hl : 8 < fs.length) (hfs : fs.set 8 v = fs1) (hdg : decode cc pc = .ok (.putfield 150, 3)) (kk : ∀ (w : va_W) (H1 : Heap) (locs1 : List Loc), w[q0]? = some (a, .inr (3, fs1)) → gF q0 (q0 + 1) ws w → va_P D classes w H1 → va_D A w → va_S A H0 H1 locs1 → W p l e R s m args below meth c H1 locs1 cells slots Q (F0 m (pc + 3) ls rest)) : W p l e R s m args below meth c H locs cells slots Q (F0 m pc ls (v :: .ref a :: rest)) := by
  subst hfs
  exact va_put (D := D) (C := R_M) (T := F_M) (N := 13) (ty := .int) hF.1 hF.2.1 hF.2.2.2.2 (fun w h => hT w (wu_M w h)) tt_M tt_M_ok n_M hF.2.2.2.1 hK hP hD hS q0 he rfl 8 (by decide) (hF.2.2.2.2 _ (hT _ wm_3_133)) (fun _ h => h) rfl (by decide +kernel) hn hfit hl hdg (fun H1 locs1 h1 h2 h3 => kk _ H1 locs1 (gw_eq he) gF.set h1 h2 h3)
theorem gf_M_29 (hF : CallFix p m c cc nL s args Ts R_M) (hT : ∀ w ∈ wG, w ∈ Ts) (hK : va_K D classes tys s) (hP : va_P D classes ws H) (he : ws[q0]? = some (a, .inr (3, fs))) {v : Value} (hv : fs[9]? = some v) (hdg : decode cc pc = .ok (.getfield 29, 3)) (kk : W p l e R s m args below meth c H locs cells slots Q (F0 m (pc + 3) ls (v :: rest))) : W p l e R s m args below meth c H locs cells slots Q (F0 m pc ls (.ref a :: rest)) :=
  va_get (D := D) (C := R_M) (T := F_M) (N := 13) hF.1 hF.2.1 hF.2.2.2.2 (fun w h => hT w (wu_M w h)) hF.2.2.2.1 hK hP q0 he rfl 9 (by decide) (hF.2.2.2.2 _ (hT _ wm_3_134)) (fun _ h => h) hv hdg kk
theorem gp_M_29 (hF : CallFix p m c cc nL s args Ts R_M) (hT : ∀ w ∈ wG, w ∈ Ts) (hin : meth.name = "<init>") (hK : va_K D classes tys s) (hP : va_P D classes ws H) (hD : va_D A ws) (hS : va_S A H0 H locs) (he : ws[q0]? = some (a, .inr (3, fs))) {v : Value} {fs1 : List Value} (hn : narrow (.array .int) v = v) (hfit : fits (.array .int) v = true) (hl : 9 < fs.length) (hfs : fs.set 9 v = fs1) (hdg : decode cc pc = .ok (.putfield 29, 3)) (kk : ∀ (w : va_W) (H1 : Heap) (locs1 : List Loc), w[q0]? = some (a, .inr (3, fs1)) → gF q0 (q0 + 1) ws w → va_P D classes w H1 → va_D A w → va_S A H0 H1 locs1 → W p l e R s m args below meth c H1 locs1 cells slots Q (F0 m (pc + 3) ls rest)) : W p l e R s m args below meth c H locs cells slots Q (F0 m pc ls (v :: .ref a :: rest)) := by
  subst hfs
  exact va_putF (D := D) (C := R_M) (T := F_M) (N := 13) (ty := .array .int) hF.1 hF.2.1 hF.2.2.2.2 (fun w h => hT w (wu_M w h)) tt_M tt_M_ok n_M hF.2.2.2.1 hK hP hD hS q0 he rfl 9 (by decide) (hF.2.2.2.2 _ (hT _ wm_3_134)) (fun _ h => h) rfl hin rfl (by decide +kernel) hn hfit hl hdg (fun H1 locs1 h1 h2 h3 => kk _ H1 locs1 (gw_eq he) gF.set h1 h2 h3)
theorem gf_M_33 (hF : CallFix p m c cc nL s args Ts R_M) (hT : ∀ w ∈ wG, w ∈ Ts) (hK : va_K D classes tys s) (hP : va_P D classes ws H) (he : ws[q0]? = some (a, .inr (3, fs))) {v : Value} (hv : fs[10]? = some v) (hdg : decode cc pc = .ok (.getfield 33, 3)) (kk : W p l e R s m args below meth c H locs cells slots Q (F0 m (pc + 3) ls (v :: rest))) : W p l e R s m args below meth c H locs cells slots Q (F0 m pc ls (.ref a :: rest)) :=
  va_get (D := D) (C := R_M) (T := F_M) (N := 13) hF.1 hF.2.1 hF.2.2.2.2 (fun w h => hT w (wu_M w h)) hF.2.2.2.1 hK hP q0 he rfl 10 (by decide) (hF.2.2.2.2 _ (hT _ wm_3_135)) (fun _ h => h) hv hdg kk
theorem gp_M_33 (hF : CallFix p m c cc nL s args Ts R_M) (hT : ∀ w ∈ wG, w ∈ Ts) (hin : meth.name = "<init>") (hK : va_K D classes tys s) (hP : va_P D classes ws H) (hD : va_D A ws) (hS : va_S A H0 H locs) (he : ws[q0]? = some (a, .inr (3, fs))) {v : Value} {fs1 : List Value} (hn : narrow (.array .int) v = v) (hfit : fits (.array .int) v = true) (hl : 10 < fs.length) (hfs : fs.set 10 v = fs1) (hdg : decode cc pc = .ok (.putfield 33, 3)) (kk : ∀ (w : va_W) (H1 : Heap) (locs1 : List Loc), w[q0]? = some (a, .inr (3, fs1)) → gF q0 (q0 + 1) ws w → va_P D classes w H1 → va_D A w → va_S A H0 H1 locs1 → W p l e R s m args below meth c H1 locs1 cells slots Q (F0 m (pc + 3) ls rest)) : W p l e R s m args below meth c H locs cells slots Q (F0 m pc ls (v :: .ref a :: rest)) := by
  subst hfs
  exact va_putF (D := D) (C := R_M) (T := F_M) (N := 13) (ty := .array .int) hF.1 hF.2.1 hF.2.2.2.2 (fun w h => hT w (wu_M w h)) tt_M tt_M_ok n_M hF.2.2.2.1 hK hP hD hS q0 he rfl 10 (by decide) (hF.2.2.2.2 _ (hT _ wm_3_135)) (fun _ h => h) rfl hin rfl (by decide +kernel) hn hfit hl hdg (fun H1 locs1 h1 h2 h3 => kk _ H1 locs1 (gw_eq he) gF.set h1 h2 h3)
theorem gf_M_36 (hF : CallFix p m c cc nL s args Ts R_M) (hT : ∀ w ∈ wG, w ∈ Ts) (hK : va_K D classes tys s) (hP : va_P D classes ws H) (he : ws[q0]? = some (a, .inr (3, fs))) {v : Value} (hv : fs[11]? = some v) (hdg : decode cc pc = .ok (.getfield 36, 3)) (kk : W p l e R s m args below meth c H locs cells slots Q (F0 m (pc + 3) ls (v :: rest))) : W p l e R s m args below meth c H locs cells slots Q (F0 m pc ls (.ref a :: rest)) :=
  va_get (D := D) (C := R_M) (T := F_M) (N := 13) hF.1 hF.2.1 hF.2.2.2.2 (fun w h => hT w (wu_M w h)) hF.2.2.2.1 hK hP q0 he rfl 11 (by decide) (hF.2.2.2.2 _ (hT _ wm_3_136)) (fun _ h => h) hv hdg kk
theorem gp_M_36 (hF : CallFix p m c cc nL s args Ts R_M) (hT : ∀ w ∈ wG, w ∈ Ts) (hin : meth.name = "<init>") (hK : va_K D classes tys s) (hP : va_P D classes ws H) (hD : va_D A ws) (hS : va_S A H0 H locs) (he : ws[q0]? = some (a, .inr (3, fs))) {v : Value} {fs1 : List Value} (hn : narrow (.array .long) v = v) (hfit : fits (.array .long) v = true) (hl : 11 < fs.length) (hfs : fs.set 11 v = fs1) (hdg : decode cc pc = .ok (.putfield 36, 3)) (kk : ∀ (w : va_W) (H1 : Heap) (locs1 : List Loc), w[q0]? = some (a, .inr (3, fs1)) → gF q0 (q0 + 1) ws w → va_P D classes w H1 → va_D A w → va_S A H0 H1 locs1 → W p l e R s m args below meth c H1 locs1 cells slots Q (F0 m (pc + 3) ls rest)) : W p l e R s m args below meth c H locs cells slots Q (F0 m pc ls (v :: .ref a :: rest)) := by
  subst hfs
  exact va_putF (D := D) (C := R_M) (T := F_M) (N := 13) (ty := .array .long) hF.1 hF.2.1 hF.2.2.2.2 (fun w h => hT w (wu_M w h)) tt_M tt_M_ok n_M hF.2.2.2.1 hK hP hD hS q0 he rfl 11 (by decide) (hF.2.2.2.2 _ (hT _ wm_3_136)) (fun _ h => h) rfl hin rfl (by decide +kernel) hn hfit hl hdg (fun H1 locs1 h1 h2 h3 => kk _ H1 locs1 (gw_eq he) gF.set h1 h2 h3)
theorem gf_M_39 (hF : CallFix p m c cc nL s args Ts R_M) (hT : ∀ w ∈ wG, w ∈ Ts) (hK : va_K D classes tys s) (hP : va_P D classes ws H) (he : ws[q0]? = some (a, .inr (3, fs))) {v : Value} (hv : fs[12]? = some v) (hdg : decode cc pc = .ok (.getfield 39, 3)) (kk : W p l e R s m args below meth c H locs cells slots Q (F0 m (pc + 3) ls (v :: rest))) : W p l e R s m args below meth c H locs cells slots Q (F0 m pc ls (.ref a :: rest)) :=
  va_get (D := D) (C := R_M) (T := F_M) (N := 13) hF.1 hF.2.1 hF.2.2.2.2 (fun w h => hT w (wu_M w h)) hF.2.2.2.1 hK hP q0 he rfl 12 (by decide) (hF.2.2.2.2 _ (hT _ wm_3_137)) (fun _ h => h) hv hdg kk
theorem gp_M_39 (hF : CallFix p m c cc nL s args Ts R_M) (hT : ∀ w ∈ wG, w ∈ Ts) (hin : meth.name = "<init>") (hK : va_K D classes tys s) (hP : va_P D classes ws H) (hD : va_D A ws) (hS : va_S A H0 H locs) (he : ws[q0]? = some (a, .inr (3, fs))) {v : Value} {fs1 : List Value} (hn : narrow (.array .boolean) v = v) (hfit : fits (.array .boolean) v = true) (hl : 12 < fs.length) (hfs : fs.set 12 v = fs1) (hdg : decode cc pc = .ok (.putfield 39, 3)) (kk : ∀ (w : va_W) (H1 : Heap) (locs1 : List Loc), w[q0]? = some (a, .inr (3, fs1)) → gF q0 (q0 + 1) ws w → va_P D classes w H1 → va_D A w → va_S A H0 H1 locs1 → W p l e R s m args below meth c H1 locs1 cells slots Q (F0 m (pc + 3) ls rest)) : W p l e R s m args below meth c H locs cells slots Q (F0 m pc ls (v :: .ref a :: rest)) := by
  subst hfs
  exact va_putF (D := D) (C := R_M) (T := F_M) (N := 13) (ty := .array .boolean) hF.1 hF.2.1 hF.2.2.2.2 (fun w h => hT w (wu_M w h)) tt_M tt_M_ok n_M hF.2.2.2.1 hK hP hD hS q0 he rfl 12 (by decide) (hF.2.2.2.2 _ (hT _ wm_3_137)) (fun _ h => h) rfl hin rfl (by decide +kernel) hn hfit hl hdg (fun H1 locs1 h1 h2 h3 => kk _ H1 locs1 (gw_eq he) gF.set h1 h2 h3)
end SF
section SC
variable {p : Program} {l : Launch} {e : Env} {R : Room} {s : State} {m : MethodId} {args : Array Value} {below : List Frame} {meth : Method} {c : Code} {H H0 : Heap} {locs : List Loc} {cells slots : Nat}
variable {D : va_G} {tys : List (ClassId × FieldType)} {A : Nat → Prop} {ws : va_W} {b q0 : Nat} {fs As rest st0 : List Value} {pc nL mc ms : Nat} {ls : Array Slot} {cc : ByteArray} {Ts : List Cond} {rm : Room} {Qc : Array Value → State → Outcome → State → Prop} {free : Addr → Prop}
theorem gc_L_97 (hF : CallFix p m c cc nL s args Ts R_L) (hT : ∀ w ∈ wG, w ∈ Ts) (hM : Met l y_X_init w_X_init rm (gw_Pc D classes tys (.ref b :: As) ws H.size) Qc mc ms free) (hR : rm.frames + 1 ≤ R.frames ∧ 8 + (3 + 11) + rm.locals ≤ R.locals) (hrc : rm.cells = mc) (hrs : rm.slots = ms) (hK : va_K D classes tys s) (hN : gN s) (hP : va_P D classes ws H) (hD : va_D A ws) (hn : As.length = 1) (hsize : ls.size = nL) (hstack : st0 = As.reverse ++ .ref b :: rest) (hW : (rest.map fun v => v.category).sum ≤ 8) (hdg : decode cc pc = .ok (.invokespecial 97, 3)) (hf : cells + mc ≤ R.cells ∧ slots + ms ≤ R.slots) : va_Run p l e R s m args below meth c H locs cells slots mc ms (F0 m pc ls st0) rest (Qc (Value.ref b :: As).toArray) free :=
  gw_rI hF hT hM wm_1_16 wm_1_17 wm_1_1 wm_1_18 rfl (by decide +kernel) hR hrc hrs hK hN hP hD hn hsize hstack hW hdg hf
theorem gc_X_9 (hF : CallFix p m c cc nL s args Ts R_X) (hT : ∀ w ∈ wG, w ∈ Ts) (hM : Met l y_JM_min w_JM_min rm (gw_Pc D classes tys As ws H.size) Qc mc ms free) (hR : rm.frames + 1 ≤ R.frames ∧ 8 + (2 + 11) + rm.locals ≤ R.locals) (hrc : rm.cells = mc) (hrs : rm.slots = ms) (hK : va_K D classes tys s) (hN : gN s) (hP : va_P D classes ws H) (hD : va_D A ws) (hn : As.length = 2) (hsize : ls.size = nL) (hstack : st0 = As.reverse ++ rest) (hW : (rest.map fun v => v.category).sum ≤ 8) (hdg : decode cc pc = .ok (.invokestatic 9, 3)) (hf : cells + mc ≤ R.cells ∧ slots + ms ≤ R.slots) : va_Run p l e R s m args below meth c H locs cells slots mc ms (F0 m pc ls st0) rest (Qc As.toArray) free :=
  gw_rS hF hT hM wm_1_22 wm_1_23 wm_1_2 wm_1_24 (by decide +kernel) hR hrc hrs hK hN hP hD hn hsize hstack hW hdg hf
theorem gc_X_15 (hF : CallFix p m c cc nL s args Ts R_X) (hT : ∀ w ∈ wG, w ∈ Ts) (hM : Met l y_JM_max w_JM_max rm (gw_Pc D classes tys As ws H.size) Qc mc ms free) (hR : rm.frames + 1 ≤ R.frames ∧ 8 + (2 + 11) + rm.locals ≤ R.locals) (hrc : rm.cells = mc) (hrs : rm.slots = ms) (hK : va_K D classes tys s) (hN : gN s) (hP : va_P D classes ws H) (hD : va_D A ws) (hn : As.length = 2) (hsize : ls.size = nL) (hstack : st0 = As.reverse ++ rest) (hW : (rest.map fun v => v.category).sum ≤ 8) (hdg : decode cc pc = .ok (.invokestatic 15, 3)) (hf : cells + mc ≤ R.cells ∧ slots + ms ≤ R.slots) : va_Run p l e R s m args below meth c H locs cells slots mc ms (F0 m pc ls st0) rest (Qc As.toArray) free :=
  gw_rS hF hT hM wm_1_25 wm_1_26 wm_1_2 wm_1_27 (by decide +kernel) hR hrc hrs hK hN hP hD hn hsize hstack hW hdg hf
theorem gc_X_31 (hF : CallFix p m c cc nL s args Ts R_X) (hT : ∀ w ∈ wG, w ∈ Ts) (hM : Met l y_S_init w_S_init rm (gw_Pc D classes tys (.ref b :: As) ws H.size) Qc mc ms free) (hR : rm.frames + 1 ≤ R.frames ∧ 8 + (2 + 11) + rm.locals ≤ R.locals) (hrc : rm.cells = mc) (hrs : rm.slots = ms) (hK : va_K D classes tys s) (hN : gN s) (hP : va_P D classes ws H) (hD : va_D A ws) (hn : As.length = 1) (hsize : ls.size = nL) (hstack : st0 = As.reverse ++ .ref b :: rest) (hW : (rest.map fun v => v.category).sum ≤ 8) (hdg : decode cc pc = .ok (.invokespecial 31, 3)) (hf : cells + mc ≤ R.cells ∧ slots + ms ≤ R.slots) : va_Run p l e R s m args below meth c H locs cells slots mc ms (F0 m pc ls st0) rest (Qc (Value.ref b :: As).toArray) free :=
  gw_rI hF hT hM wm_1_31 wm_1_32 wm_1_3 wm_1_33 rfl (by decide +kernel) hR hrc hrs hK hN hP hD hn hsize hstack hW hdg hf
theorem gc_S_17 (hF : CallFix p m c cc nL s args Ts R_S) (hT : ∀ w ∈ wG, w ∈ Ts) (hM : Met l y_T_init w_T_init rm (gw_Pc D classes tys (.ref b :: As) ws H.size) Qc mc ms free) (hR : rm.frames + 1 ≤ R.frames ∧ 8 + (2 + 11) + rm.locals ≤ R.locals) (hrc : rm.cells = mc) (hrs : rm.slots = ms) (hK : va_K D classes tys s) (hN : gN s) (hP : va_P D classes ws H) (hD : va_D A ws) (hn : As.length = 1) (hsize : ls.size = nL) (hstack : st0 = As.reverse ++ .ref b :: rest) (hW : (rest.map fun v => v.category).sum ≤ 8) (hdg : decode cc pc = .ok (.invokespecial 17, 3)) (hf : cells + mc ≤ R.cells ∧ slots + ms ≤ R.slots) : va_Run p l e R s m args below meth c H locs cells slots mc ms (F0 m pc ls st0) rest (Qc (Value.ref b :: As).toArray) free :=
  gw_rI hF hT hM wm_1_37 wm_1_38 wm_1_4 wm_1_39 rfl (by decide +kernel) hR hrc hrs hK hN hP hD hn hsize hstack hW hdg hf
theorem gc_T_21 (hF : CallFix p m c cc nL s args Ts R_T) (hT : ∀ w ∈ wG, w ∈ Ts) (hM : Met l y_JA_fill w_JA_fill rm (gw_Pc D classes tys As ws H.size) Qc mc ms free) (hR : rm.frames + 1 ≤ R.frames ∧ 8 + (5 + 11) + rm.locals ≤ R.locals) (hrc : rm.cells = mc) (hrs : rm.slots = ms) (hK : va_K D classes tys s) (hN : gN s) (hP : va_P D classes ws H) (hD : va_D A ws) (hn : As.length = 2) (hsize : ls.size = nL) (hstack : st0 = As.reverse ++ rest) (hW : (rest.map fun v => v.category).sum ≤ 8) (hdg : decode cc pc = .ok (.invokestatic 21, 3)) (hf : cells + mc ≤ R.cells ∧ slots + ms ≤ R.slots) : va_Run p l e R s m args below meth c H locs cells slots mc ms (F0 m pc ls st0) rest (Qc As.toArray) free :=
  gw_rS hF hT hM wm_1_42 wm_1_43 wm_1_5 wm_1_44 (by decide +kernel) hR hrc hrs hK hN hP hD hn hsize hstack hW hdg hf
theorem gc_S_27 (hF : CallFix p m c cc nL s args Ts R_S) (hT : ∀ w ∈ wG, w ∈ Ts) (hM : Met l y_T_storeOpposites w_T_storeOpposites rm (gw_Pc D classes tys (.ref b :: As) ws H.size) Qc mc ms free) (hR : rm.frames + 1 ≤ R.frames ∧ 8 + (4 + 11) + rm.locals ≤ R.locals) (hrc : rm.cells = mc) (hrs : rm.slots = ms) (hK : va_K D classes tys s) (hN : gN s) (hP : va_P D classes ws H) (hD : va_D A ws) (he : ws[q0]? = some (b, .inr (0, fs))) (hn : As.length = 1) (hsize : ls.size = nL) (hstack : st0 = As.reverse ++ .ref b :: rest) (hW : (rest.map fun v => v.category).sum ≤ 8) (hdg : decode cc pc = .ok (.invokevirtual 27, 3)) (hf : cells + mc ≤ R.cells ∧ slots + ms ≤ R.slots) : va_Run p l e R s m args below meth c H locs cells slots mc ms (F0 m pc ls st0) rest (Qc (Value.ref b :: As).toArray) free :=
  gw_rV (C := R_T) hF hT hM wm_1_53 wm_1_54 wm_1_55 wm_1_4 wm_1_56 (by decide +kernel) hR hrc hrs hK hN hP hD (ci := 0) rfl rfl he hn hsize hstack hW hdg hf
theorem gc_X_40 (hF : CallFix p m c cc nL s args Ts R_X) (hT : ∀ w ∈ wG, w ∈ Ts) (hM : Met l y_T_init w_T_init rm (gw_Pc D classes tys (.ref b :: As) ws H.size) Qc mc ms free) (hR : rm.frames + 1 ≤ R.frames ∧ 8 + (2 + 11) + rm.locals ≤ R.locals) (hrc : rm.cells = mc) (hrs : rm.slots = ms) (hK : va_K D classes tys s) (hN : gN s) (hP : va_P D classes ws H) (hD : va_D A ws) (hn : As.length = 1) (hsize : ls.size = nL) (hstack : st0 = As.reverse ++ .ref b :: rest) (hW : (rest.map fun v => v.category).sum ≤ 8) (hdg : decode cc pc = .ok (.invokespecial 40, 3)) (hf : cells + mc ≤ R.cells ∧ slots + ms ≤ R.slots) : va_Run p l e R s m args below meth c H locs cells slots mc ms (F0 m pc ls st0) rest (Qc (Value.ref b :: As).toArray) free :=
  gw_rI hF hT hM wm_1_74 wm_1_38 wm_1_4 wm_1_39 rfl (by decide +kernel) hR hrc hrs hK hN hP hD hn hsize hstack hW hdg hf
theorem gc_L_91 (hF : CallFix p m c cc nL s args Ts R_L) (hT : ∀ w ∈ wG, w ∈ Ts) (hM : Met l y_L_cell w_L_cell rm (gw_Pc D classes tys As ws H.size) Qc mc ms free) (hR : rm.frames + 1 ≤ R.frames ∧ 8 + (2 + 11) + rm.locals ≤ R.locals) (hrc : rm.cells = mc) (hrs : rm.slots = ms) (hK : va_K D classes tys s) (hN : gN s) (hP : va_P D classes ws H) (hD : va_D A ws) (hn : As.length = 2) (hsize : ls.size = nL) (hstack : st0 = As.reverse ++ rest) (hW : (rest.map fun v => v.category).sum ≤ 8) (hdg : decode cc pc = .ok (.invokestatic 91, 3)) (hf : cells + mc ≤ R.cells ∧ slots + ms ≤ R.slots) : va_Run p l e R s m args below meth c H locs cells slots mc ms (F0 m pc ls st0) rest (Qc As.toArray) free :=
  gw_rS hF hT hM wm_1_103 wm_1_104 wm_1_0 wm_1_105 (by decide +kernel) hR hrc hrs hK hN hP hD hn hsize hstack hW hdg hf
theorem gc_L_7 (hF : CallFix p m c cc nL s args Ts R_L) (hT : ∀ w ∈ wG, w ∈ Ts) (hM : Met l y_X_all w_X_all rm (gw_Pc D classes tys (.ref b :: As) ws H.size) Qc mc ms free) (hR : rm.frames + 1 ≤ R.frames ∧ 8 + (2 + 11) + rm.locals ≤ R.locals) (hrc : rm.cells = mc) (hrs : rm.slots = ms) (hK : va_K D classes tys s) (hN : gN s) (hP : va_P D classes ws H) (hD : va_D A ws) (he : ws[q0]? = some (b, .inr (2, fs))) (hn : As.length = 1) (hsize : ls.size = nL) (hstack : st0 = As.reverse ++ .ref b :: rest) (hW : (rest.map fun v => v.category).sum ≤ 8) (hdg : decode cc pc = .ok (.invokevirtual 7, 3)) (hf : cells + mc ≤ R.cells ∧ slots + ms ≤ R.slots) : va_Run p l e R s m args below meth c H locs cells slots mc ms (F0 m pc ls st0) rest (Qc (Value.ref b :: As).toArray) free :=
  gw_rV (C := R_X) hF hT hM wm_1_110 wm_1_111 wm_1_112 wm_1_1 wm_1_113 (by decide +kernel) hR hrc hrs hK hN hP hD (ci := 2) rfl rfl he hn hsize hstack hW hdg hf
theorem gc_X_58 (hF : CallFix p m c cc nL s args Ts R_X) (hT : ∀ w ∈ wG, w ∈ Ts) (hM : Met l y_X_checkShape w_X_checkShape rm (gw_Pc D classes tys As ws H.size) Qc mc ms free) (hR : rm.frames + 1 ≤ R.frames ∧ 8 + (1 + 11) + rm.locals ≤ R.locals) (hrc : rm.cells = mc) (hrs : rm.slots = ms) (hK : va_K D classes tys s) (hN : gN s) (hP : va_P D classes ws H) (hD : va_D A ws) (hn : As.length = 1) (hsize : ls.size = nL) (hstack : st0 = As.reverse ++ rest) (hW : (rest.map fun v => v.category).sum ≤ 8) (hdg : decode cc pc = .ok (.invokestatic 58, 3)) (hf : cells + mc ≤ R.cells ∧ slots + ms ≤ R.slots) : va_Run p l e R s m args below meth c H locs cells slots mc ms (F0 m pc ls st0) rest (Qc As.toArray) free :=
  gw_rS hF hT hM wm_1_114 wm_1_115 wm_1_1 wm_1_116 (by decide +kernel) hR hrc hrs hK hN hP hD hn hsize hstack hW hdg hf
theorem gc_X_61 (hF : CallFix p m c cc nL s args Ts R_X) (hT : ∀ w ∈ wG, w ∈ Ts) (hM : Met l y_S_becomeAll w_S_becomeAll rm (gw_Pc D classes tys (.ref b :: As) ws H.size) Qc mc ms free) (hR : rm.frames + 1 ≤ R.frames ∧ 8 + (1 + 11) + rm.locals ≤ R.locals) (hrc : rm.cells = mc) (hrs : rm.slots = ms) (hK : va_K D classes tys s) (hN : gN s) (hP : va_P D classes ws H) (hD : va_D A ws) (he : ws[q0]? = some (b, .inr (1, fs))) (hn : As.length = 0) (hsize : ls.size = nL) (hstack : st0 = As.reverse ++ .ref b :: rest) (hW : (rest.map fun v => v.category).sum ≤ 8) (hdg : decode cc pc = .ok (.invokevirtual 61, 3)) (hf : cells + mc ≤ R.cells ∧ slots + ms ≤ R.slots) : va_Run p l e R s m args below meth c H locs cells slots mc ms (F0 m pc ls st0) rest (Qc (Value.ref b :: As).toArray) free :=
  gw_rV (C := R_S) hF hT hM wm_1_185 wm_1_186 wm_1_187 wm_1_3 wm_1_188 (by decide +kernel) hR hrc hrs hK hN hP hD (ci := 1) rfl rfl he hn hsize hstack hW hdg hf
theorem gc_S_35 (hF : CallFix p m c cc nL s args Ts R_S) (hT : ∀ w ∈ wG, w ∈ Ts) (hM : Met l y_T_dropRows w_T_dropRows rm (gw_Pc D classes tys (.ref b :: As) ws H.size) Qc mc ms free) (hR : rm.frames + 1 ≤ R.frames ∧ 8 + (1 + 11) + rm.locals ≤ R.locals) (hrc : rm.cells = mc) (hrs : rm.slots = ms) (hK : va_K D classes tys s) (hN : gN s) (hP : va_P D classes ws H) (hD : va_D A ws) (he : ws[q0]? = some (b, .inr (0, fs))) (hn : As.length = 0) (hsize : ls.size = nL) (hstack : st0 = As.reverse ++ .ref b :: rest) (hW : (rest.map fun v => v.category).sum ≤ 8) (hdg : decode cc pc = .ok (.invokevirtual 35, 3)) (hf : cells + mc ≤ R.cells ∧ slots + ms ≤ R.slots) : va_Run p l e R s m args below meth c H locs cells slots mc ms (F0 m pc ls st0) rest (Qc (Value.ref b :: As).toArray) free :=
  gw_rV (C := R_T) hF hT hM wm_1_189 wm_1_190 wm_1_191 wm_1_4 wm_1_192 (by decide +kernel) hR hrc hrs hK hN hP hD (ci := 0) rfl rfl he hn hsize hstack hW hdg hf
theorem gc_L_15 (hF : CallFix p m c cc nL s args Ts R_L) (hT : ∀ w ∈ wG, w ∈ Ts) (hM : Met l y_X_row w_X_row rm (gw_Pc D classes tys (.ref b :: As) ws H.size) Qc mc ms free) (hR : rm.frames + 1 ≤ R.frames ∧ 8 + (6 + 11) + rm.locals ≤ R.locals) (hrc : rm.cells = mc) (hrs : rm.slots = ms) (hK : va_K D classes tys s) (hN : gN s) (hP : va_P D classes ws H) (hD : va_D A ws) (he : ws[q0]? = some (b, .inr (2, fs))) (hn : As.length = 4) (hsize : ls.size = nL) (hstack : st0 = As.reverse ++ .ref b :: rest) (hW : (rest.map fun v => v.category).sum ≤ 8) (hdg : decode cc pc = .ok (.invokevirtual 15, 3)) (hf : cells + mc ≤ R.cells ∧ slots + ms ≤ R.slots) : va_Run p l e R s m args below meth c H locs cells slots mc ms (F0 m pc ls st0) rest (Qc (Value.ref b :: As).toArray) free :=
  gw_rV (C := R_X) hF hT hM wm_1_198 wm_1_199 wm_1_200 wm_1_1 wm_1_201 (by decide +kernel) hR hrc hrs hK hN hP hD (ci := 2) rfl rfl he hn hsize hstack hW hdg hf
theorem gc_X_64 (hF : CallFix p m c cc nL s args Ts R_X) (hT : ∀ w ∈ wG, w ∈ Ts) (hM : Met l y_X_checkTerm w_X_checkTerm rm (gw_Pc D classes tys (.ref b :: As) ws H.size) Qc mc ms free) (hR : rm.frames + 1 ≤ R.frames ∧ 8 + (2 + 11) + rm.locals ≤ R.locals) (hrc : rm.cells = mc) (hrs : rm.slots = ms) (hK : va_K D classes tys s) (hN : gN s) (hP : va_P D classes ws H) (hD : va_D A ws) (he : ws[q0]? = some (b, .inr (2, fs))) (hn : As.length = 1) (hsize : ls.size = nL) (hstack : st0 = As.reverse ++ .ref b :: rest) (hW : (rest.map fun v => v.category).sum ≤ 8) (hdg : decode cc pc = .ok (.invokevirtual 64, 3)) (hf : cells + mc ≤ R.cells ∧ slots + ms ≤ R.slots) : va_Run p l e R s m args below meth c H locs cells slots mc ms (F0 m pc ls st0) rest (Qc (Value.ref b :: As).toArray) free :=
  gw_rV (C := R_X) hF hT hM wm_1_202 wm_1_204 ws_X_checkTerm wm_1_1 wm_1_205 (by decide +kernel) hR hrc hrs hK hN hP hD (ci := 2) rfl rfl he hn hsize hstack hW hdg hf
theorem gc_X_67 (hF : CallFix p m c cc nL s args Ts R_X) (hT : ∀ w ∈ wG, w ∈ Ts) (hM : Met l y_X_checkGiven w_X_checkGiven rm (gw_Pc D classes tys As ws H.size) Qc mc ms free) (hR : rm.frames + 1 ≤ R.frames ∧ 8 + (2 + 11) + rm.locals ≤ R.locals) (hrc : rm.cells = mc) (hrs : rm.slots = ms) (hK : va_K D classes tys s) (hN : gN s) (hP : va_P D classes ws H) (hD : va_D A ws) (hn : As.length = 1) (hsize : ls.size = nL) (hstack : st0 = As.reverse ++ rest) (hW : (rest.map fun v => v.category).sum ≤ 8) (hdg : decode cc pc = .ok (.invokestatic 67, 3)) (hf : cells + mc ≤ R.cells ∧ slots + ms ≤ R.slots) : va_Run p l e R s m args below meth c H locs cells slots mc ms (F0 m pc ls st0) rest (Qc As.toArray) free :=
  gw_rS hF hT hM wm_1_207 wm_1_208 wm_1_1 wm_1_209 (by decide +kernel) hR hrc hrs hK hN hP hD hn hsize hstack hW hdg hf
theorem gc_X_71 (hF : CallFix p m c cc nL s args Ts R_X) (hT : ∀ w ∈ wG, w ∈ Ts) (hM : Met l y_S_becomeLike w_S_becomeLike rm (gw_Pc D classes tys (.ref b :: As) ws H.size) Qc mc ms free) (hR : rm.frames + 1 ≤ R.frames ∧ 8 + (2 + 11) + rm.locals ≤ R.locals) (hrc : rm.cells = mc) (hrs : rm.slots = ms) (hK : va_K D classes tys s) (hN : gN s) (hP : va_P D classes ws H) (hD : va_D A ws) (he : ws[q0]? = some (b, .inr (1, fs))) (hn : As.length = 1) (hsize : ls.size = nL) (hstack : st0 = As.reverse ++ .ref b :: rest) (hW : (rest.map fun v => v.category).sum ≤ 8) (hdg : decode cc pc = .ok (.invokevirtual 71, 3)) (hf : cells + mc ≤ R.cells ∧ slots + ms ≤ R.slots) : va_Run p l e R s m args below meth c H locs cells slots mc ms (F0 m pc ls st0) rest (Qc (Value.ref b :: As).toArray) free :=
  gw_rV (C := R_S) hF hT hM wm_1_228 wm_1_229 wm_1_230 wm_1_3 wm_1_231 (by decide +kernel) hR hrc hrs hK hN hP hD (ci := 1) rfl rfl he hn hsize hstack hW hdg hf
theorem gc_S_41 (hF : CallFix p m c cc nL s args Ts R_S) (hT : ∀ w ∈ wG, w ∈ Ts) (hM : Met l y_T_takeFrom w_T_takeFrom rm (gw_Pc D classes tys (.ref b :: As) ws H.size) Qc mc ms free) (hR : rm.frames + 1 ≤ R.frames ∧ 8 + (2 + 11) + rm.locals ≤ R.locals) (hrc : rm.cells = mc) (hrs : rm.slots = ms) (hK : va_K D classes tys s) (hN : gN s) (hP : va_P D classes ws H) (hD : va_D A ws) (he : ws[q0]? = some (b, .inr (0, fs))) (hn : As.length = 1) (hsize : ls.size = nL) (hstack : st0 = As.reverse ++ .ref b :: rest) (hW : (rest.map fun v => v.category).sum ≤ 8) (hdg : decode cc pc = .ok (.invokevirtual 41, 3)) (hf : cells + mc ≤ R.cells ∧ slots + ms ≤ R.slots) : va_Run p l e R s m args below meth c H locs cells slots mc ms (F0 m pc ls st0) rest (Qc (Value.ref b :: As).toArray) free :=
  gw_rV (C := R_T) hF hT hM wm_1_232 wm_1_233 wm_1_234 wm_1_4 wm_1_235 (by decide +kernel) hR hrc hrs hK hN hP hD (ci := 0) rfl rfl he hn hsize hstack hW hdg hf
theorem gc_T_51 (hF : CallFix p m c cc nL s args Ts R_T) (hT : ∀ w ∈ wG, w ∈ Ts) (hM : Met l y_JM_min w_JM_min rm (gw_Pc D classes tys As ws H.size) Qc mc ms free) (hR : rm.frames + 1 ≤ R.frames ∧ 8 + (2 + 11) + rm.locals ≤ R.locals) (hrc : rm.cells = mc) (hrs : rm.slots = ms) (hK : va_K D classes tys s) (hN : gN s) (hP : va_P D classes ws H) (hD : va_D A ws) (hn : As.length = 2) (hsize : ls.size = nL) (hstack : st0 = As.reverse ++ rest) (hW : (rest.map fun v => v.category).sum ≤ 8) (hdg : decode cc pc = .ok (.invokestatic 51, 3)) (hf : cells + mc ≤ R.cells ∧ slots + ms ≤ R.slots) : va_Run p l e R s m args below meth c H locs cells slots mc ms (F0 m pc ls st0) rest (Qc As.toArray) free :=
  gw_rS hF hT hM wm_1_236 wm_1_23 wm_1_2 wm_1_24 (by decide +kernel) hR hrc hrs hK hN hP hD hn hsize hstack hW hdg hf
theorem gc_X_75 (hF : CallFix p m c cc nL s args Ts R_X) (hT : ∀ w ∈ wG, w ∈ Ts) (hM : Met l y_S_addRow w_S_addRow rm (gw_Pc D classes tys (.ref b :: As) ws H.size) Qc mc ms free) (hR : rm.frames + 1 ≤ R.frames ∧ 8 + (6 + 11) + rm.locals ≤ R.locals) (hrc : rm.cells = mc) (hrs : rm.slots = ms) (hK : va_K D classes tys s) (hN : gN s) (hP : va_P D classes ws H) (hD : va_D A ws) (he : ws[q0]? = some (b, .inr (1, fs))) (hn : As.length = 3) (hsize : ls.size = nL) (hstack : st0 = As.reverse ++ .ref b :: rest) (hW : (rest.map fun v => v.category).sum ≤ 8) (hdg : decode cc pc = .ok (.invokevirtual 75, 3)) (hf : cells + mc ≤ R.cells ∧ slots + ms ≤ R.slots) : va_Run p l e R s m args below meth c H locs cells slots mc ms (F0 m pc ls st0) rest (Qc (Value.ref b :: As).toArray) free :=
  gw_rV (C := R_S) hF hT hM wm_2_0 wm_2_1 wm_2_2 wm_1_3 wm_2_3 (by decide +kernel) hR hrc hrs hK hN hP hD (ci := 1) rfl rfl he hn hsize hstack hW hdg hf
theorem gc_S_51 (hF : CallFix p m c cc nL s args Ts R_S) (hT : ∀ w ∈ wG, w ∈ Ts) (hM : Met l y_S_becomeEmpty w_S_becomeEmpty rm (gw_Pc D classes tys (.ref b :: As) ws H.size) Qc mc ms free) (hR : rm.frames + 1 ≤ R.frames ∧ 8 + (1 + 11) + rm.locals ≤ R.locals) (hrc : rm.cells = mc) (hrs : rm.slots = ms) (hK : va_K D classes tys s) (hN : gN s) (hP : va_P D classes ws H) (hD : va_D A ws) (he : ws[q0]? = some (b, .inr (1, fs))) (hn : As.length = 0) (hsize : ls.size = nL) (hstack : st0 = As.reverse ++ .ref b :: rest) (hW : (rest.map fun v => v.category).sum ≤ 8) (hdg : decode cc pc = .ok (.invokevirtual 51, 3)) (hf : cells + mc ≤ R.cells ∧ slots + ms ≤ R.slots) : va_Run p l e R s m args below meth c H locs cells slots mc ms (F0 m pc ls st0) rest (Qc (Value.ref b :: As).toArray) free :=
  gw_rV (C := R_S) hF hT hM wm_2_4 wm_2_5 wm_2_6 wm_1_3 wm_2_7 (by decide +kernel) hR hrc hrs hK hN hP hD (ci := 1) rfl rfl he hn hsize hstack hW hdg hf
theorem gc_S_38 (hF : CallFix p m c cc nL s args Ts R_S) (hT : ∀ w ∈ wG, w ∈ Ts) (hM : Met l y_S_becomeAll w_S_becomeAll rm (gw_Pc D classes tys (.ref b :: As) ws H.size) Qc mc ms free) (hR : rm.frames + 1 ≤ R.frames ∧ 8 + (1 + 11) + rm.locals ≤ R.locals) (hrc : rm.cells = mc) (hrs : rm.slots = ms) (hK : va_K D classes tys s) (hN : gN s) (hP : va_P D classes ws H) (hD : va_D A ws) (he : ws[q0]? = some (b, .inr (1, fs))) (hn : As.length = 0) (hsize : ls.size = nL) (hstack : st0 = As.reverse ++ .ref b :: rest) (hW : (rest.map fun v => v.category).sum ≤ 8) (hdg : decode cc pc = .ok (.invokevirtual 38, 3)) (hf : cells + mc ≤ R.cells ∧ slots + ms ≤ R.slots) : va_Run p l e R s m args below meth c H locs cells slots mc ms (F0 m pc ls st0) rest (Qc (Value.ref b :: As).toArray) free :=
  gw_rV (C := R_S) hF hT hM wm_2_8 wm_1_186 wm_1_187 wm_1_3 wm_1_188 (by decide +kernel) hR hrc hrs hK hN hP hD (ci := 1) rfl rfl he hn hsize hstack hW hdg hf
theorem gc_S_54 (hF : CallFix p m c cc nL s args Ts R_S) (hT : ∀ w ∈ wG, w ∈ Ts) (hM : Met l y_X_placeOf w_X_placeOf rm (gw_Pc D classes tys As ws H.size) Qc mc ms free) (hR : rm.frames + 1 ≤ R.frames ∧ 8 + (1 + 11) + rm.locals ≤ R.locals) (hrc : rm.cells = mc) (hrs : rm.slots = ms) (hK : va_K D classes tys s) (hN : gN s) (hP : va_P D classes ws H) (hD : va_D A ws) (hn : As.length = 1) (hsize : ls.size = nL) (hstack : st0 = As.reverse ++ rest) (hW : (rest.map fun v => v.category).sum ≤ 8) (hdg : decode cc pc = .ok (.invokestatic 54, 3)) (hf : cells + mc ≤ R.cells ∧ slots + ms ≤ R.slots) : va_Run p l e R s m args below meth c H locs cells slots mc ms (F0 m pc ls st0) rest (Qc As.toArray) free :=
  gw_rN (host := "LinearRows") hF hT hM (gN_11 hN) wm_2_10 wm_1_1 wm_2_11 (by decide +kernel) hR hrc hrs hK hN hP hD hn hsize hstack hW hdg hf
theorem gc_S_60 (hF : CallFix p m c cc nL s args Ts R_S) (hT : ∀ w ∈ wG, w ∈ Ts) (hM : Met l y_T_lowerTo w_T_lowerTo rm (gw_Pc D classes tys (.ref b :: As) ws H.size) Qc mc ms free) (hR : rm.frames + 1 ≤ R.frames ∧ 8 + (5 + 11) + rm.locals ≤ R.locals) (hrc : rm.cells = mc) (hrs : rm.slots = ms) (hK : va_K D classes tys s) (hN : gN s) (hP : va_P D classes ws H) (hD : va_D A ws) (he : ws[q0]? = some (b, .inr (0, fs))) (hn : As.length = 3) (hsize : ls.size = nL) (hstack : st0 = As.reverse ++ .ref b :: rest) (hW : (rest.map fun v => v.category).sum ≤ 8) (hdg : decode cc pc = .ok (.invokevirtual 60, 3)) (hf : cells + mc ≤ R.cells ∧ slots + ms ≤ R.slots) : va_Run p l e R s m args below meth c H locs cells slots mc ms (F0 m pc ls st0) rest (Qc (Value.ref b :: As).toArray) free :=
  gw_rV (C := R_T) hF hT hM wm_2_13 wm_2_14 wm_2_15 wm_1_4 wm_2_16 (by decide +kernel) hR hrc hrs hK hN hP hD (ci := 0) rfl rfl he hn hsize hstack hW hdg hf
theorem gc_T_27 (hF : CallFix p m c cc nL s args Ts R_T) (hT : ∀ w ∈ wG, w ∈ Ts) (hM : Met l y_T_at w_T_at rm (gw_Pc D classes tys (.ref b :: As) ws H.size) Qc mc ms free) (hR : rm.frames + 1 ≤ R.frames ∧ 8 + (3 + 11) + rm.locals ≤ R.locals) (hrc : rm.cells = mc) (hrs : rm.slots = ms) (hK : va_K D classes tys s) (hN : gN s) (hP : va_P D classes ws H) (hD : va_D A ws) (he : ws[q0]? = some (b, .inr (0, fs))) (hn : As.length = 2) (hsize : ls.size = nL) (hstack : st0 = As.reverse ++ .ref b :: rest) (hW : (rest.map fun v => v.category).sum ≤ 8) (hdg : decode cc pc = .ok (.invokevirtual 27, 3)) (hf : cells + mc ≤ R.cells ∧ slots + ms ≤ R.slots) : va_Run p l e R s m args below meth c H locs cells slots mc ms (F0 m pc ls st0) rest (Qc (Value.ref b :: As).toArray) free :=
  gw_rV (C := R_T) hF hT hM wm_2_17 wm_2_18 wm_2_19 wm_1_4 wm_2_20 (by decide +kernel) hR hrc hrs hK hN hP hD (ci := 0) rfl rfl he hn hsize hstack hW hdg hf
theorem gc_T_41 (hF : CallFix p m c cc nL s args Ts R_T) (hT : ∀ w ∈ wG, w ∈ Ts) (hM : Met l y_JM_min_JJJ w_JM_min_JJJ rm (gw_Pc D classes tys As ws H.size) Qc mc ms free) (hR : rm.frames + 1 ≤ R.frames ∧ 8 + (4 + 11) + rm.locals ≤ R.locals) (hrc : rm.cells = mc) (hrs : rm.slots = ms) (hK : va_K D classes tys s) (hN : gN s) (hP : va_P D classes ws H) (hD : va_D A ws) (hn : As.length = 2) (hsize : ls.size = nL) (hstack : st0 = As.reverse ++ rest) (hW : (rest.map fun v => v.category).sum ≤ 8) (hdg : decode cc pc = .ok (.invokestatic 41, 3)) (hf : cells + mc ≤ R.cells ∧ slots + ms ≤ R.slots) : va_Run p l e R s m args below meth c H locs cells slots mc ms (F0 m pc ls st0) rest (Qc As.toArray) free :=
  gw_rS hF hT hM wm_2_21 wm_2_22 wm_1_2 wm_2_23 (by decide +kernel) hR hrc hrs hK hN hP hD hn hsize hstack hW hdg hf
theorem gc_T_47 (hF : CallFix p m c cc nL s args Ts R_T) (hT : ∀ w ∈ wG, w ∈ Ts) (hM : Met l y_T_store w_T_store rm (gw_Pc D classes tys (.ref b :: As) ws H.size) Qc mc ms free) (hR : rm.frames + 1 ≤ R.frames ∧ 8 + (5 + 11) + rm.locals ≤ R.locals) (hrc : rm.cells = mc) (hrs : rm.slots = ms) (hK : va_K D classes tys s) (hN : gN s) (hP : va_P D classes ws H) (hD : va_D A ws) (he : ws[q0]? = some (b, .inr (0, fs))) (hn : As.length = 3) (hsize : ls.size = nL) (hstack : st0 = As.reverse ++ .ref b :: rest) (hW : (rest.map fun v => v.category).sum ≤ 8) (hdg : decode cc pc = .ok (.invokevirtual 47, 3)) (hf : cells + mc ≤ R.cells ∧ slots + ms ≤ R.slots) : va_Run p l e R s m args below meth c H locs cells slots mc ms (F0 m pc ls st0) rest (Qc (Value.ref b :: As).toArray) free :=
  gw_rV (C := R_T) hF hT hM wm_2_24 wm_2_25 wm_2_26 wm_1_4 wm_2_27 (by decide +kernel) hR hrc hrs hK hN hP hD (ci := 0) rfl rfl he hn hsize hstack hW hdg hf
theorem gc_S_64 (hF : CallFix p m c cc nL s args Ts R_S) (hT : ∀ w ∈ wG, w ∈ Ts) (hM : Met l y_JM_floorDiv w_JM_floorDiv rm (gw_Pc D classes tys As ws H.size) Qc mc ms free) (hR : rm.frames + 1 ≤ R.frames ∧ 8 + (6 + 11) + rm.locals ≤ R.locals) (hrc : rm.cells = mc) (hrs : rm.slots = ms) (hK : va_K D classes tys s) (hN : gN s) (hP : va_P D classes ws H) (hD : va_D A ws) (hn : As.length = 2) (hsize : ls.size = nL) (hstack : st0 = As.reverse ++ rest) (hW : (rest.map fun v => v.category).sum ≤ 8) (hdg : decode cc pc = .ok (.invokestatic 64, 3)) (hf : cells + mc ≤ R.cells ∧ slots + ms ≤ R.slots) : va_Run p l e R s m args below meth c H locs cells slots mc ms (F0 m pc ls st0) rest (Qc As.toArray) free :=
  gw_rS hF hT hM wm_2_28 wm_2_29 wm_1_2 wm_2_30 (by decide +kernel) hR hrc hrs hK hN hP hD hn hsize hstack hW hdg hf
theorem gc_S_70 (hF : CallFix p m c cc nL s args Ts R_S) (hT : ∀ w ∈ wG, w ∈ Ts) (hM : Met l y_S_closeKeptRows w_S_closeKeptRows rm (gw_Pc D classes tys (.ref b :: As) ws H.size) Qc mc ms free) (hR : rm.frames + 1 ≤ R.frames ∧ 8 + (1 + 11) + rm.locals ≤ R.locals) (hrc : rm.cells = mc) (hrs : rm.slots = ms) (hK : va_K D classes tys s) (hN : gN s) (hP : va_P D classes ws H) (hD : va_D A ws) (he : ws[q0]? = some (b, .inr (1, fs))) (hn : As.length = 0) (hsize : ls.size = nL) (hstack : st0 = As.reverse ++ .ref b :: rest) (hW : (rest.map fun v => v.category).sum ≤ 8) (hdg : decode cc pc = .ok (.invokevirtual 70, 3)) (hf : cells + mc ≤ R.cells ∧ slots + ms ≤ R.slots) : va_Run p l e R s m args below meth c H locs cells slots mc ms (F0 m pc ls st0) rest (Qc (Value.ref b :: As).toArray) free :=
  gw_rV (C := R_S) hF hT hM wm_2_31 wm_2_33 ws_S_closeKeptRows wm_1_3 wm_2_34 (by decide +kernel) hR hrc hrs hK hN hP hD (ci := 1) rfl rfl he hn hsize hstack hW hdg hf
theorem gc_S_111 (hF : CallFix p m c cc nL s args Ts R_S) (hT : ∀ w ∈ wG, w ∈ Ts) (hM : Met l y_T_close w_T_close rm (gw_Pc D classes tys (.ref b :: As) ws H.size) Qc mc ms free) (hR : rm.frames + 1 ≤ R.frames ∧ 8 + (2 + 11) + rm.locals ≤ R.locals) (hrc : rm.cells = mc) (hrs : rm.slots = ms) (hK : va_K D classes tys s) (hN : gN s) (hP : va_P D classes ws H) (hD : va_D A ws) (he : ws[q0]? = some (b, .inr (0, fs))) (hn : As.length = 0) (hsize : ls.size = nL) (hstack : st0 = As.reverse ++ .ref b :: rest) (hW : (rest.map fun v => v.category).sum ≤ 8) (hdg : decode cc pc = .ok (.invokevirtual 111, 3)) (hf : cells + mc ≤ R.cells ∧ slots + ms ≤ R.slots) : va_Run p l e R s m args below meth c H locs cells slots mc ms (F0 m pc ls st0) rest (Qc (Value.ref b :: As).toArray) free :=
  gw_rV (C := R_T) hF hT hM wm_2_35 wm_2_36 wm_2_37 wm_1_4 wm_2_38 (by decide +kernel) hR hrc hrs hK hN hP hD (ci := 0) rfl rfl he hn hsize hstack hW hdg hf
theorem gc_T_64 (hF : CallFix p m c cc nL s args Ts R_T) (hT : ∀ w ∈ wG, w ∈ Ts) (hM : Met l y_T_storeOpposites w_T_storeOpposites rm (gw_Pc D classes tys (.ref b :: As) ws H.size) Qc mc ms free) (hR : rm.frames + 1 ≤ R.frames ∧ 8 + (4 + 11) + rm.locals ≤ R.locals) (hrc : rm.cells = mc) (hrs : rm.slots = ms) (hK : va_K D classes tys s) (hN : gN s) (hP : va_P D classes ws H) (hD : va_D A ws) (he : ws[q0]? = some (b, .inr (0, fs))) (hn : As.length = 1) (hsize : ls.size = nL) (hstack : st0 = As.reverse ++ .ref b :: rest) (hW : (rest.map fun v => v.category).sum ≤ 8) (hdg : decode cc pc = .ok (.invokevirtual 64, 3)) (hf : cells + mc ≤ R.cells ∧ slots + ms ≤ R.slots) : va_Run p l e R s m args below meth c H locs cells slots mc ms (F0 m pc ls st0) rest (Qc (Value.ref b :: As).toArray) free :=
  gw_rV (C := R_T) hF hT hM wm_2_39 wm_1_54 wm_1_55 wm_1_4 wm_1_56 (by decide +kernel) hR hrc hrs hK hN hP hD (ci := 0) rfl rfl he hn hsize hstack hW hdg hf
theorem gc_T_68 (hF : CallFix p m c cc nL s args Ts R_T) (hT : ∀ w ∈ wG, w ∈ Ts) (hM : Met l y_T_chainThrough w_T_chainThrough rm (gw_Pc D classes tys (.ref b :: As) ws H.size) Qc mc ms free) (hR : rm.frames + 1 ≤ R.frames ∧ 8 + (10 + 11) + rm.locals ≤ R.locals) (hrc : rm.cells = mc) (hrs : rm.slots = ms) (hK : va_K D classes tys s) (hN : gN s) (hP : va_P D classes ws H) (hD : va_D A ws) (he : ws[q0]? = some (b, .inr (0, fs))) (hn : As.length = 1) (hsize : ls.size = nL) (hstack : st0 = As.reverse ++ .ref b :: rest) (hW : (rest.map fun v => v.category).sum ≤ 8) (hdg : decode cc pc = .ok (.invokevirtual 68, 3)) (hf : cells + mc ≤ R.cells ∧ slots + ms ≤ R.slots) : va_Run p l e R s m args below meth c H locs cells slots mc ms (F0 m pc ls st0) rest (Qc (Value.ref b :: As).toArray) free :=
  gw_rV (C := R_T) hF hT hM wm_2_40 wm_2_42 ws_T_chainThrough wm_1_4 wm_2_43 (by decide +kernel) hR hrc hrs hK hN hP hD (ci := 0) rfl rfl he hn hsize hstack hW hdg hf
theorem gc_T_72 (hF : CallFix p m c cc nL s args Ts R_T) (hT : ∀ w ∈ wG, w ∈ Ts) (hM : Met l y_T_hasOppositesBelowZero w_T_hasOppositesBelowZero rm (gw_Pc D classes tys (.ref b :: As) ws H.size) Qc mc ms free) (hR : rm.frames + 1 ≤ R.frames ∧ 8 + (2 + 11) + rm.locals ≤ R.locals) (hrc : rm.cells = mc) (hrs : rm.slots = ms) (hK : va_K D classes tys s) (hN : gN s) (hP : va_P D classes ws H) (hD : va_D A ws) (he : ws[q0]? = some (b, .inr (0, fs))) (hn : As.length = 0) (hsize : ls.size = nL) (hstack : st0 = As.reverse ++ .ref b :: rest) (hW : (rest.map fun v => v.category).sum ≤ 8) (hdg : decode cc pc = .ok (.invokevirtual 72, 3)) (hf : cells + mc ≤ R.cells ∧ slots + ms ≤ R.slots) : va_Run p l e R s m args below meth c H locs cells slots mc ms (F0 m pc ls st0) rest (Qc (Value.ref b :: As).toArray) free :=
  gw_rV (C := R_T) hF hT hM wm_2_44 wm_2_46 ws_T_hasOppositesBelowZero wm_1_4 wm_2_47 (by decide +kernel) hR hrc hrs hK hN hP hD (ci := 0) rfl rfl he hn hsize hstack hW hdg hf
theorem gc_T_76 (hF : CallFix p m c cc nL s args Ts R_T) (hT : ∀ w ∈ wG, w ∈ Ts) (hM : Met l y_T_cutToEven w_T_cutToEven rm (gw_Pc D classes tys (.ref b :: As) ws H.size) Qc mc ms free) (hR : rm.frames + 1 ≤ R.frames ∧ 8 + (2 + 11) + rm.locals ≤ R.locals) (hrc : rm.cells = mc) (hrs : rm.slots = ms) (hK : va_K D classes tys s) (hN : gN s) (hP : va_P D classes ws H) (hD : va_D A ws) (he : ws[q0]? = some (b, .inr (0, fs))) (hn : As.length = 0) (hsize : ls.size = nL) (hstack : st0 = As.reverse ++ .ref b :: rest) (hW : (rest.map fun v => v.category).sum ≤ 8) (hdg : decode cc pc = .ok (.invokevirtual 76, 3)) (hf : cells + mc ≤ R.cells ∧ slots + ms ≤ R.slots) : va_Run p l e R s m args below meth c H locs cells slots mc ms (F0 m pc ls st0) rest (Qc (Value.ref b :: As).toArray) free :=
  gw_rV (C := R_T) hF hT hM wm_2_48 wm_2_50 ws_T_cutToEven wm_1_4 wm_2_51 (by decide +kernel) hR hrc hrs hK hN hP hD (ci := 0) rfl rfl he hn hsize hstack hW hdg hf
theorem gc_T_85 (hF : CallFix p m c cc nL s args Ts R_T) (hT : ∀ w ∈ wG, w ∈ Ts) (hM : Met l y_JM_floorDiv w_JM_floorDiv rm (gw_Pc D classes tys As ws H.size) Qc mc ms free) (hR : rm.frames + 1 ≤ R.frames ∧ 8 + (6 + 11) + rm.locals ≤ R.locals) (hrc : rm.cells = mc) (hrs : rm.slots = ms) (hK : va_K D classes tys s) (hN : gN s) (hP : va_P D classes ws H) (hD : va_D A ws) (hn : As.length = 2) (hsize : ls.size = nL) (hstack : st0 = As.reverse ++ rest) (hW : (rest.map fun v => v.category).sum ≤ 8) (hdg : decode cc pc = .ok (.invokestatic 85, 3)) (hf : cells + mc ≤ R.cells ∧ slots + ms ≤ R.slots) : va_Run p l e R s m args below meth c H locs cells slots mc ms (F0 m pc ls st0) rest (Qc As.toArray) free :=
  gw_rS hF hT hM wm_2_53 wm_2_29 wm_1_2 wm_2_30 (by decide +kernel) hR hrc hrs hK hN hP hD hn hsize hstack hW hdg hf
theorem gc_T_79 (hF : CallFix p m c cc nL s args Ts R_T) (hT : ∀ w ∈ wG, w ∈ Ts) (hM : Met l y_T_hasTwicesThatContradict w_T_hasTwicesThatContradict rm (gw_Pc D classes tys (.ref b :: As) ws H.size) Qc mc ms free) (hR : rm.frames + 1 ≤ R.frames ∧ 8 + (2 + 11) + rm.locals ≤ R.locals) (hrc : rm.cells = mc) (hrs : rm.slots = ms) (hK : va_K D classes tys s) (hN : gN s) (hP : va_P D classes ws H) (hD : va_D A ws) (he : ws[q0]? = some (b, .inr (0, fs))) (hn : As.length = 0) (hsize : ls.size = nL) (hstack : st0 = As.reverse ++ .ref b :: rest) (hW : (rest.map fun v => v.category).sum ≤ 8) (hdg : decode cc pc = .ok (.invokevirtual 79, 3)) (hf : cells + mc ≤ R.cells ∧ slots + ms ≤ R.slots) : va_Run p l e R s m args below meth c H locs cells slots mc ms (F0 m pc ls st0) rest (Qc (Value.ref b :: As).toArray) free :=
  gw_rV (C := R_T) hF hT hM wm_2_54 wm_2_56 ws_T_hasTwicesThatContradict wm_1_4 wm_2_57 (by decide +kernel) hR hrc hrs hK hN hP hD (ci := 0) rfl rfl he hn hsize hstack hW hdg hf
theorem gc_T_88 (hF : CallFix p m c cc nL s args Ts R_T) (hT : ∀ w ∈ wG, w ∈ Ts) (hM : Met l y_X_plus w_X_plus rm (gw_Pc D classes tys As ws H.size) Qc mc ms free) (hR : rm.frames + 1 ≤ R.frames ∧ 8 + (4 + 11) + rm.locals ≤ R.locals) (hrc : rm.cells = mc) (hrs : rm.slots = ms) (hK : va_K D classes tys s) (hN : gN s) (hP : va_P D classes ws H) (hD : va_D A ws) (hn : As.length = 2) (hsize : ls.size = nL) (hstack : st0 = As.reverse ++ rest) (hW : (rest.map fun v => v.category).sum ≤ 8) (hdg : decode cc pc = .ok (.invokestatic 88, 3)) (hf : cells + mc ≤ R.cells ∧ slots + ms ≤ R.slots) : va_Run p l e R s m args below meth c H locs cells slots mc ms (F0 m pc ls st0) rest (Qc As.toArray) free :=
  gw_rN (host := "LinearRows") hF hT hM (gN_12 hN) wm_2_59 wm_1_1 wm_2_60 (by decide +kernel) hR hrc hrs hK hN hP hD hn hsize hstack hW hdg hf
theorem gc_T_82 (hF : CallFix p m c cc nL s args Ts R_T) (hT : ∀ w ∈ wG, w ∈ Ts) (hM : Met l y_T_addHalves w_T_addHalves rm (gw_Pc D classes tys (.ref b :: As) ws H.size) Qc mc ms free) (hR : rm.frames + 1 ≤ R.frames ∧ 8 + (3 + 11) + rm.locals ≤ R.locals) (hrc : rm.cells = mc) (hrs : rm.slots = ms) (hK : va_K D classes tys s) (hN : gN s) (hP : va_P D classes ws H) (hD : va_D A ws) (he : ws[q0]? = some (b, .inr (0, fs))) (hn : As.length = 0) (hsize : ls.size = nL) (hstack : st0 = As.reverse ++ .ref b :: rest) (hW : (rest.map fun v => v.category).sum ≤ 8) (hdg : decode cc pc = .ok (.invokevirtual 82, 3)) (hf : cells + mc ≤ R.cells ∧ slots + ms ≤ R.slots) : va_Run p l e R s m args below meth c H locs cells slots mc ms (F0 m pc ls st0) rest (Qc (Value.ref b :: As).toArray) free :=
  gw_rV (C := R_T) hF hT hM wm_2_62 wm_2_64 ws_T_addHalves wm_1_4 wm_2_65 (by decide +kernel) hR hrc hrs hK hN hP hD (ci := 0) rfl rfl he hn hsize hstack hW hdg hf
theorem gc_T_37 (hF : CallFix p m c cc nL s args Ts R_T) (hT : ∀ w ∈ wG, w ∈ Ts) (hM : Met l y_T_half w_T_half rm (gw_Pc D classes tys (.ref b :: As) ws H.size) Qc mc ms free) (hR : rm.frames + 1 ≤ R.frames ∧ 8 + (2 + 11) + rm.locals ≤ R.locals) (hrc : rm.cells = mc) (hrs : rm.slots = ms) (hK : va_K D classes tys s) (hN : gN s) (hP : va_P D classes ws H) (hD : va_D A ws) (he : ws[q0]? = some (b, .inr (0, fs))) (hn : As.length = 1) (hsize : ls.size = nL) (hstack : st0 = As.reverse ++ .ref b :: rest) (hW : (rest.map fun v => v.category).sum ≤ 8) (hdg : decode cc pc = .ok (.invokevirtual 37, 3)) (hf : cells + mc ≤ R.cells ∧ slots + ms ≤ R.slots) : va_Run p l e R s m args below meth c H locs cells slots mc ms (F0 m pc ls st0) rest (Qc (Value.ref b :: As).toArray) free :=
  gw_rV (C := R_T) hF hT hM wm_2_66 wm_2_67 wm_2_68 wm_1_4 wm_2_69 (by decide +kernel) hR hrc hrs hK hN hP hD (ci := 0) rfl rfl he hn hsize hstack hW hdg hf
theorem gc_T_91 (hF : CallFix p m c cc nL s args Ts R_T) (hT : ∀ w ∈ wG, w ∈ Ts) (hM : Met l y_T_lowerTo w_T_lowerTo rm (gw_Pc D classes tys (.ref b :: As) ws H.size) Qc mc ms free) (hR : rm.frames + 1 ≤ R.frames ∧ 8 + (5 + 11) + rm.locals ≤ R.locals) (hrc : rm.cells = mc) (hrs : rm.slots = ms) (hK : va_K D classes tys s) (hN : gN s) (hP : va_P D classes ws H) (hD : va_D A ws) (he : ws[q0]? = some (b, .inr (0, fs))) (hn : As.length = 3) (hsize : ls.size = nL) (hstack : st0 = As.reverse ++ .ref b :: rest) (hW : (rest.map fun v => v.category).sum ≤ 8) (hdg : decode cc pc = .ok (.invokevirtual 91, 3)) (hf : cells + mc ≤ R.cells ∧ slots + ms ≤ R.slots) : va_Run p l e R s m args below meth c H locs cells slots mc ms (F0 m pc ls st0) rest (Qc (Value.ref b :: As).toArray) free :=
  gw_rV (C := R_T) hF hT hM wm_2_70 wm_2_14 wm_2_15 wm_1_4 wm_2_16 (by decide +kernel) hR hrc hrs hK hN hP hD (ci := 0) rfl rfl he hn hsize hstack hW hdg hf
theorem gc_X_79 (hF : CallFix p m c cc nL s args Ts R_X) (hT : ∀ w ∈ wG, w ∈ Ts) (hM : Met l y_X_takeMade w_X_takeMade rm (gw_Pc D classes tys (.ref b :: As) ws H.size) Qc mc ms free) (hR : rm.frames + 1 ≤ R.frames ∧ 8 + (2 + 11) + rm.locals ≤ R.locals) (hrc : rm.cells = mc) (hrs : rm.slots = ms) (hK : va_K D classes tys s) (hN : gN s) (hP : va_P D classes ws H) (hD : va_D A ws) (he : ws[q0]? = some (b, .inr (2, fs))) (hn : As.length = 1) (hsize : ls.size = nL) (hstack : st0 = As.reverse ++ .ref b :: rest) (hW : (rest.map fun v => v.category).sum ≤ 8) (hdg : decode cc pc = .ok (.invokevirtual 79, 3)) (hf : cells + mc ≤ R.cells ∧ slots + ms ≤ R.slots) : va_Run p l e R s m args below meth c H locs cells slots mc ms (F0 m pc ls st0) rest (Qc (Value.ref b :: As).toArray) free :=
  gw_rV (C := R_X) hF hT hM wm_2_71 wm_2_73 ws_X_takeMade wm_1_1 wm_2_74 (by decide +kernel) hR hrc hrs hK hN hP hD (ci := 2) rfl rfl he hn hsize hstack hW hdg hf
theorem gc_X_208 (hF : CallFix p m c cc nL s args Ts R_X) (hT : ∀ w ∈ wG, w ∈ Ts) (hM : Met l y_T_isTooFar w_T_isTooFar rm (gw_Pc D classes tys (.ref b :: As) ws H.size) Qc mc ms free) (hR : rm.frames + 1 ≤ R.frames ∧ 8 + (5 + 11) + rm.locals ≤ R.locals) (hrc : rm.cells = mc) (hrs : rm.slots = ms) (hK : va_K D classes tys s) (hN : gN s) (hP : va_P D classes ws H) (hD : va_D A ws) (he : ws[q0]? = some (b, .inr (0, fs))) (hn : As.length = 0) (hsize : ls.size = nL) (hstack : st0 = As.reverse ++ .ref b :: rest) (hW : (rest.map fun v => v.category).sum ≤ 8) (hdg : decode cc pc = .ok (.invokevirtual 208, 3)) (hf : cells + mc ≤ R.cells ∧ slots + ms ≤ R.slots) : va_Run p l e R s m args below meth c H locs cells slots mc ms (F0 m pc ls st0) rest (Qc (Value.ref b :: As).toArray) free :=
  gw_rV (C := R_T) hF hT hM wm_2_75 wm_2_76 wm_2_77 wm_1_4 wm_2_78 (by decide +kernel) hR hrc hrs hK hN hP hD (ci := 0) rfl rfl he hn hsize hstack hW hdg hf
theorem gc_L_23 (hF : CallFix p m c cc nL s args Ts R_L) (hT : ∀ w ∈ wG, w ∈ Ts) (hM : Met l y_X_bound w_X_bound rm (gw_Pc D classes tys (.ref b :: As) ws H.size) Qc mc ms free) (hR : rm.frames + 1 ≤ R.frames ∧ 8 + (4 + 11) + rm.locals ≤ R.locals) (hrc : rm.cells = mc) (hrs : rm.slots = ms) (hK : va_K D classes tys s) (hN : gN s) (hP : va_P D classes ws H) (hD : va_D A ws) (he : ws[q0]? = some (b, .inr (2, fs))) (hn : As.length = 3) (hsize : ls.size = nL) (hstack : st0 = As.reverse ++ .ref b :: rest) (hW : (rest.map fun v => v.category).sum ≤ 8) (hdg : decode cc pc = .ok (.invokevirtual 23, 3)) (hf : cells + mc ≤ R.cells ∧ slots + ms ≤ R.slots) : va_Run p l e R s m args below meth c H locs cells slots mc ms (F0 m pc ls st0) rest (Qc (Value.ref b :: As).toArray) free :=
  gw_rV (C := R_X) hF hT hM wm_2_100 wm_2_101 wm_2_102 wm_1_1 wm_2_103 (by decide +kernel) hR hrc hrs hK hN hP hD (ci := 2) rfl rfl he hn hsize hstack hW hdg hf
theorem gc_X_83 (hF : CallFix p m c cc nL s args Ts R_X) (hT : ∀ w ∈ wG, w ∈ Ts) (hM : Met l y_S_greatest w_S_greatest rm (gw_Pc D classes tys (.ref b :: As) ws H.size) Qc mc ms free) (hR : rm.frames + 1 ≤ R.frames ∧ 8 + (3 + 11) + rm.locals ≤ R.locals) (hrc : rm.cells = mc) (hrs : rm.slots = ms) (hK : va_K D classes tys s) (hN : gN s) (hP : va_P D classes ws H) (hD : va_D A ws) (he : ws[q0]? = some (b, .inr (1, fs))) (hn : As.length = 2) (hsize : ls.size = nL) (hstack : st0 = As.reverse ++ .ref b :: rest) (hW : (rest.map fun v => v.category).sum ≤ 8) (hdg : decode cc pc = .ok (.invokevirtual 83, 3)) (hf : cells + mc ≤ R.cells ∧ slots + ms ≤ R.slots) : va_Run p l e R s m args below meth c H locs cells slots mc ms (F0 m pc ls st0) rest (Qc (Value.ref b :: As).toArray) free :=
  gw_rV (C := R_S) hF hT hM wm_2_104 wm_2_105 wm_2_106 wm_1_3 wm_2_107 (by decide +kernel) hR hrc hrs hK hN hP hD (ci := 1) rfl rfl he hn hsize hstack hW hdg hf
theorem gc_S_47 (hF : CallFix p m c cc nL s args Ts R_S) (hT : ∀ w ∈ wG, w ∈ Ts) (hM : Met l y_T_ofTerms w_T_ofTerms rm (gw_Pc D classes tys (.ref b :: As) ws H.size) Qc mc ms free) (hR : rm.frames + 1 ≤ R.frames ∧ 8 + (3 + 11) + rm.locals ≤ R.locals) (hrc : rm.cells = mc) (hrs : rm.slots = ms) (hK : va_K D classes tys s) (hN : gN s) (hP : va_P D classes ws H) (hD : va_D A ws) (he : ws[q0]? = some (b, .inr (0, fs))) (hn : As.length = 2) (hsize : ls.size = nL) (hstack : st0 = As.reverse ++ .ref b :: rest) (hW : (rest.map fun v => v.category).sum ≤ 8) (hdg : decode cc pc = .ok (.invokevirtual 47, 3)) (hf : cells + mc ≤ R.cells ∧ slots + ms ≤ R.slots) : va_Run p l e R s m args below meth c H locs cells slots mc ms (F0 m pc ls st0) rest (Qc (Value.ref b :: As).toArray) free :=
  gw_rV (C := R_T) hF hT hM wm_2_109 wm_2_110 wm_2_111 wm_1_4 wm_2_112 (by decide +kernel) hR hrc hrs hK hN hP hD (ci := 0) rfl rfl he hn hsize hstack hW hdg hf
theorem gc_T_33 (hF : CallFix p m c cc nL s args Ts R_T) (hT : ∀ w ∈ wG, w ∈ Ts) (hM : Met l y_X_placeOf w_X_placeOf rm (gw_Pc D classes tys As ws H.size) Qc mc ms free) (hR : rm.frames + 1 ≤ R.frames ∧ 8 + (1 + 11) + rm.locals ≤ R.locals) (hrc : rm.cells = mc) (hrs : rm.slots = ms) (hK : va_K D classes tys s) (hN : gN s) (hP : va_P D classes ws H) (hD : va_D A ws) (hn : As.length = 1) (hsize : ls.size = nL) (hstack : st0 = As.reverse ++ rest) (hW : (rest.map fun v => v.category).sum ≤ 8) (hdg : decode cc pc = .ok (.invokestatic 33, 3)) (hf : cells + mc ≤ R.cells ∧ slots + ms ≤ R.slots) : va_Run p l e R s m args below meth c H locs cells slots mc ms (F0 m pc ls st0) rest (Qc As.toArray) free :=
  gw_rN (host := "LinearRows") hF hT hM (gN_14 hN) wm_2_10 wm_1_1 wm_2_11 (by decide +kernel) hR hrc hrs hK hN hP hD hn hsize hstack hW hdg hf
theorem gc_L_27 (hF : CallFix p m c cc nL s args Ts R_L) (hT : ∀ w ∈ wG, w ∈ Ts) (hM : Met l y_X_kept w_X_kept rm (gw_Pc D classes tys (.ref b :: As) ws H.size) Qc mc ms free) (hR : rm.frames + 1 ≤ R.frames ∧ 8 + (4 + 11) + rm.locals ≤ R.locals) (hrc : rm.cells = mc) (hrs : rm.slots = ms) (hK : va_K D classes tys s) (hN : gN s) (hP : va_P D classes ws H) (hD : va_D A ws) (he : ws[q0]? = some (b, .inr (2, fs))) (hn : As.length = 3) (hsize : ls.size = nL) (hstack : st0 = As.reverse ++ .ref b :: rest) (hW : (rest.map fun v => v.category).sum ≤ 8) (hdg : decode cc pc = .ok (.invokevirtual 27, 3)) (hf : cells + mc ≤ R.cells ∧ slots + ms ≤ R.slots) : va_Run p l e R s m args below meth c H locs cells slots mc ms (F0 m pc ls st0) rest (Qc (Value.ref b :: As).toArray) free :=
  gw_rV (C := R_X) hF hT hM wm_2_117 wm_2_118 wm_2_119 wm_1_1 wm_2_120 (by decide +kernel) hR hrc hrs hK hN hP hD (ci := 2) rfl rfl he hn hsize hstack hW hdg hf
theorem gc_X_92 (hF : CallFix p m c cc nL s args Ts R_X) (hT : ∀ w ∈ wG, w ∈ Ts) (hM : Met l y_T_ofTerms w_T_ofTerms rm (gw_Pc D classes tys (.ref b :: As) ws H.size) Qc mc ms free) (hR : rm.frames + 1 ≤ R.frames ∧ 8 + (3 + 11) + rm.locals ≤ R.locals) (hrc : rm.cells = mc) (hrs : rm.slots = ms) (hK : va_K D classes tys s) (hN : gN s) (hP : va_P D classes ws H) (hD : va_D A ws) (he : ws[q0]? = some (b, .inr (0, fs))) (hn : As.length = 2) (hsize : ls.size = nL) (hstack : st0 = As.reverse ++ .ref b :: rest) (hW : (rest.map fun v => v.category).sum ≤ 8) (hdg : decode cc pc = .ok (.invokevirtual 92, 3)) (hf : cells + mc ≤ R.cells ∧ slots + ms ≤ R.slots) : va_Run p l e R s m args below meth c H locs cells slots mc ms (F0 m pc ls st0) rest (Qc (Value.ref b :: As).toArray) free :=
  gw_rV (C := R_T) hF hT hM wm_2_121 wm_2_110 wm_2_111 wm_1_4 wm_2_112 (by decide +kernel) hR hrc hrs hK hN hP hD (ci := 0) rfl rfl he hn hsize hstack hW hdg hf
theorem gc_L_30 (hF : CallFix p m c cc nL s args Ts R_L) (hT : ∀ w ∈ wG, w ∈ Ts) (hM : Met l y_X_meet w_X_meet rm (gw_Pc D classes tys (.ref b :: As) ws H.size) Qc mc ms free) (hR : rm.frames + 1 ≤ R.frames ∧ 8 + (4 + 11) + rm.locals ≤ R.locals) (hrc : rm.cells = mc) (hrs : rm.slots = ms) (hK : va_K D classes tys s) (hN : gN s) (hP : va_P D classes ws H) (hD : va_D A ws) (he : ws[q0]? = some (b, .inr (2, fs))) (hn : As.length = 3) (hsize : ls.size = nL) (hstack : st0 = As.reverse ++ .ref b :: rest) (hW : (rest.map fun v => v.category).sum ≤ 8) (hdg : decode cc pc = .ok (.invokevirtual 30, 3)) (hf : cells + mc ≤ R.cells ∧ slots + ms ≤ R.slots) : va_Run p l e R s m args below meth c H locs cells slots mc ms (F0 m pc ls st0) rest (Qc (Value.ref b :: As).toArray) free :=
  gw_rV (C := R_X) hF hT hM wm_2_125 wm_2_126 wm_2_127 wm_1_1 wm_2_128 (by decide +kernel) hR hrc hrs hK hN hP hD (ci := 2) rfl rfl he hn hsize hstack hW hdg hf
theorem gc_X_95 (hF : CallFix p m c cc nL s args Ts R_X) (hT : ∀ w ∈ wG, w ∈ Ts) (hM : Met l y_X_checkShapes w_X_checkShapes rm (gw_Pc D classes tys As ws H.size) Qc mc ms free) (hR : rm.frames + 1 ≤ R.frames ∧ 8 + (3 + 11) + rm.locals ≤ R.locals) (hrc : rm.cells = mc) (hrs : rm.slots = ms) (hK : va_K D classes tys s) (hN : gN s) (hP : va_P D classes ws H) (hD : va_D A ws) (hn : As.length = 3) (hsize : ls.size = nL) (hstack : st0 = As.reverse ++ rest) (hW : (rest.map fun v => v.category).sum ≤ 8) (hdg : decode cc pc = .ok (.invokestatic 95, 3)) (hf : cells + mc ≤ R.cells ∧ slots + ms ≤ R.slots) : va_Run p l e R s m args below meth c H locs cells slots mc ms (F0 m pc ls st0) rest (Qc As.toArray) free :=
  gw_rS hF hT hM wm_2_129 wm_2_130 wm_1_1 wm_2_131 (by decide +kernel) hR hrc hrs hK hN hP hD hn hsize hstack hW hdg hf
theorem gc_X_99 (hF : CallFix p m c cc nL s args Ts R_X) (hT : ∀ w ∈ wG, w ∈ Ts) (hM : Met l y_S_becomeMeeting w_S_becomeMeeting rm (gw_Pc D classes tys (.ref b :: As) ws H.size) Qc mc ms free) (hR : rm.frames + 1 ≤ R.frames ∧ 8 + (5 + 11) + rm.locals ≤ R.locals) (hrc : rm.cells = mc) (hrs : rm.slots = ms) (hK : va_K D classes tys s) (hN : gN s) (hP : va_P D classes ws H) (hD : va_D A ws) (he : ws[q0]? = some (b, .inr (1, fs))) (hn : As.length = 2) (hsize : ls.size = nL) (hstack : st0 = As.reverse ++ .ref b :: rest) (hW : (rest.map fun v => v.category).sum ≤ 8) (hdg : decode cc pc = .ok (.invokevirtual 99, 3)) (hf : cells + mc ≤ R.cells ∧ slots + ms ≤ R.slots) : va_Run p l e R s m args below meth c H locs cells slots mc ms (F0 m pc ls st0) rest (Qc (Value.ref b :: As).toArray) free :=
  gw_rV (C := R_S) hF hT hM wm_2_132 wm_2_133 wm_2_134 wm_1_3 wm_2_135 (by decide +kernel) hR hrc hrs hK hN hP hD (ci := 1) rfl rfl he hn hsize hstack hW hdg hf
theorem gc_S_73 (hF : CallFix p m c cc nL s args Ts R_S) (hT : ∀ w ∈ wG, w ∈ Ts) (hM : Met l y_T_at w_T_at rm (gw_Pc D classes tys (.ref b :: As) ws H.size) Qc mc ms free) (hR : rm.frames + 1 ≤ R.frames ∧ 8 + (3 + 11) + rm.locals ≤ R.locals) (hrc : rm.cells = mc) (hrs : rm.slots = ms) (hK : va_K D classes tys s) (hN : gN s) (hP : va_P D classes ws H) (hD : va_D A ws) (he : ws[q0]? = some (b, .inr (0, fs))) (hn : As.length = 2) (hsize : ls.size = nL) (hstack : st0 = As.reverse ++ .ref b :: rest) (hW : (rest.map fun v => v.category).sum ≤ 8) (hdg : decode cc pc = .ok (.invokevirtual 73, 3)) (hf : cells + mc ≤ R.cells ∧ slots + ms ≤ R.slots) : va_Run p l e R s m args below meth c H locs cells slots mc ms (F0 m pc ls st0) rest (Qc (Value.ref b :: As).toArray) free :=
  gw_rV (C := R_T) hF hT hM wm_2_136 wm_2_18 wm_2_19 wm_1_4 wm_2_20 (by decide +kernel) hR hrc hrs hK hN hP hD (ci := 0) rfl rfl he hn hsize hstack hW hdg hf
theorem gc_S_76 (hF : CallFix p m c cc nL s args Ts R_S) (hT : ∀ w ∈ wG, w ∈ Ts) (hM : Met l y_JM_min_JJJ w_JM_min_JJJ rm (gw_Pc D classes tys As ws H.size) Qc mc ms free) (hR : rm.frames + 1 ≤ R.frames ∧ 8 + (4 + 11) + rm.locals ≤ R.locals) (hrc : rm.cells = mc) (hrs : rm.slots = ms) (hK : va_K D classes tys s) (hN : gN s) (hP : va_P D classes ws H) (hD : va_D A ws) (hn : As.length = 2) (hsize : ls.size = nL) (hstack : st0 = As.reverse ++ rest) (hW : (rest.map fun v => v.category).sum ≤ 8) (hdg : decode cc pc = .ok (.invokestatic 76, 3)) (hf : cells + mc ≤ R.cells ∧ slots + ms ≤ R.slots) : va_Run p l e R s m args below meth c H locs cells slots mc ms (F0 m pc ls st0) rest (Qc As.toArray) free :=
  gw_rS hF hT hM wm_2_137 wm_2_22 wm_1_2 wm_2_23 (by decide +kernel) hR hrc hrs hK hN hP hD hn hsize hstack hW hdg hf
theorem gc_S_79 (hF : CallFix p m c cc nL s args Ts R_S) (hT : ∀ w ∈ wG, w ∈ Ts) (hM : Met l y_T_store w_T_store rm (gw_Pc D classes tys (.ref b :: As) ws H.size) Qc mc ms free) (hR : rm.frames + 1 ≤ R.frames ∧ 8 + (5 + 11) + rm.locals ≤ R.locals) (hrc : rm.cells = mc) (hrs : rm.slots = ms) (hK : va_K D classes tys s) (hN : gN s) (hP : va_P D classes ws H) (hD : va_D A ws) (he : ws[q0]? = some (b, .inr (0, fs))) (hn : As.length = 3) (hsize : ls.size = nL) (hstack : st0 = As.reverse ++ .ref b :: rest) (hW : (rest.map fun v => v.category).sum ≤ 8) (hdg : decode cc pc = .ok (.invokevirtual 79, 3)) (hf : cells + mc ≤ R.cells ∧ slots + ms ≤ R.slots) : va_Run p l e R s m args below meth c H locs cells slots mc ms (F0 m pc ls st0) rest (Qc (Value.ref b :: As).toArray) free :=
  gw_rV (C := R_T) hF hT hM wm_2_138 wm_2_25 wm_2_26 wm_1_4 wm_2_27 (by decide +kernel) hR hrc hrs hK hN hP hD (ci := 0) rfl rfl he hn hsize hstack hW hdg hf
theorem gc_S_82 (hF : CallFix p m c cc nL s args Ts R_S) (hT : ∀ w ∈ wG, w ∈ Ts) (hM : Met l y_S_keepBounds w_S_keepBounds rm (gw_Pc D classes tys (.ref b :: As) ws H.size) Qc mc ms free) (hR : rm.frames + 1 ≤ R.frames ∧ 8 + (1 + 11) + rm.locals ≤ R.locals) (hrc : rm.cells = mc) (hrs : rm.slots = ms) (hK : va_K D classes tys s) (hN : gN s) (hP : va_P D classes ws H) (hD : va_D A ws) (he : ws[q0]? = some (b, .inr (1, fs))) (hn : As.length = 0) (hsize : ls.size = nL) (hstack : st0 = As.reverse ++ .ref b :: rest) (hW : (rest.map fun v => v.category).sum ≤ 8) (hdg : decode cc pc = .ok (.invokevirtual 82, 3)) (hf : cells + mc ≤ R.cells ∧ slots + ms ≤ R.slots) : va_Run p l e R s m args below meth c H locs cells slots mc ms (F0 m pc ls st0) rest (Qc (Value.ref b :: As).toArray) free :=
  gw_rV (C := R_S) hF hT hM wm_2_139 wm_2_141 ws_S_keepBounds wm_1_3 wm_2_142 (by decide +kernel) hR hrc hrs hK hN hP hD (ci := 1) rfl rfl he hn hsize hstack hW hdg hf
theorem gc_L_34 (hF : CallFix p m c cc nL s args Ts R_L) (hT : ∀ w ∈ wG, w ∈ Ts) (hM : Met l y_X_join w_X_join rm (gw_Pc D classes tys (.ref b :: As) ws H.size) Qc mc ms free) (hR : rm.frames + 1 ≤ R.frames ∧ 8 + (4 + 11) + rm.locals ≤ R.locals) (hrc : rm.cells = mc) (hrs : rm.slots = ms) (hK : va_K D classes tys s) (hN : gN s) (hP : va_P D classes ws H) (hD : va_D A ws) (he : ws[q0]? = some (b, .inr (2, fs))) (hn : As.length = 3) (hsize : ls.size = nL) (hstack : st0 = As.reverse ++ .ref b :: rest) (hW : (rest.map fun v => v.category).sum ≤ 8) (hdg : decode cc pc = .ok (.invokevirtual 34, 3)) (hf : cells + mc ≤ R.cells ∧ slots + ms ≤ R.slots) : va_Run p l e R s m args below meth c H locs cells slots mc ms (F0 m pc ls st0) rest (Qc (Value.ref b :: As).toArray) free :=
  gw_rV (C := R_X) hF hT hM wm_2_147 wm_2_148 wm_2_149 wm_1_1 wm_2_150 (by decide +kernel) hR hrc hrs hK hN hP hD (ci := 2) rfl rfl he hn hsize hstack hW hdg hf
theorem gc_X_103 (hF : CallFix p m c cc nL s args Ts R_X) (hT : ∀ w ∈ wG, w ∈ Ts) (hM : Met l y_S_becomeJoin w_S_becomeJoin rm (gw_Pc D classes tys (.ref b :: As) ws H.size) Qc mc ms free) (hR : rm.frames + 1 ≤ R.frames ∧ 8 + (5 + 11) + rm.locals ≤ R.locals) (hrc : rm.cells = mc) (hrs : rm.slots = ms) (hK : va_K D classes tys s) (hN : gN s) (hP : va_P D classes ws H) (hD : va_D A ws) (he : ws[q0]? = some (b, .inr (1, fs))) (hn : As.length = 2) (hsize : ls.size = nL) (hstack : st0 = As.reverse ++ .ref b :: rest) (hW : (rest.map fun v => v.category).sum ≤ 8) (hdg : decode cc pc = .ok (.invokevirtual 103, 3)) (hf : cells + mc ≤ R.cells ∧ slots + ms ≤ R.slots) : va_Run p l e R s m args below meth c H locs cells slots mc ms (F0 m pc ls st0) rest (Qc (Value.ref b :: As).toArray) free :=
  gw_rV (C := R_S) hF hT hM wm_2_151 wm_2_152 wm_2_153 wm_1_3 wm_2_154 (by decide +kernel) hR hrc hrs hK hN hP hD (ci := 1) rfl rfl he hn hsize hstack hW hdg hf
theorem gc_S_85 (hF : CallFix p m c cc nL s args Ts R_S) (hT : ∀ w ∈ wG, w ∈ Ts) (hM : Met l y_S_becomeLike w_S_becomeLike rm (gw_Pc D classes tys (.ref b :: As) ws H.size) Qc mc ms free) (hR : rm.frames + 1 ≤ R.frames ∧ 8 + (2 + 11) + rm.locals ≤ R.locals) (hrc : rm.cells = mc) (hrs : rm.slots = ms) (hK : va_K D classes tys s) (hN : gN s) (hP : va_P D classes ws H) (hD : va_D A ws) (he : ws[q0]? = some (b, .inr (1, fs))) (hn : As.length = 1) (hsize : ls.size = nL) (hstack : st0 = As.reverse ++ .ref b :: rest) (hW : (rest.map fun v => v.category).sum ≤ 8) (hdg : decode cc pc = .ok (.invokevirtual 85, 3)) (hf : cells + mc ≤ R.cells ∧ slots + ms ≤ R.slots) : va_Run p l e R s m args below meth c H locs cells slots mc ms (F0 m pc ls st0) rest (Qc (Value.ref b :: As).toArray) free :=
  gw_rV (C := R_S) hF hT hM wm_2_155 wm_1_229 wm_1_230 wm_1_3 wm_1_231 (by decide +kernel) hR hrc hrs hK hN hP hD (ci := 1) rfl rfl he hn hsize hstack hW hdg hf
theorem gc_S_89 (hF : CallFix p m c cc nL s args Ts R_S) (hT : ∀ w ∈ wG, w ∈ Ts) (hM : Met l y_JM_max_JJJ w_JM_max_JJJ rm (gw_Pc D classes tys As ws H.size) Qc mc ms free) (hR : rm.frames + 1 ≤ R.frames ∧ 8 + (4 + 11) + rm.locals ≤ R.locals) (hrc : rm.cells = mc) (hrs : rm.slots = ms) (hK : va_K D classes tys s) (hN : gN s) (hP : va_P D classes ws H) (hD : va_D A ws) (hn : As.length = 2) (hsize : ls.size = nL) (hstack : st0 = As.reverse ++ rest) (hW : (rest.map fun v => v.category).sum ≤ 8) (hdg : decode cc pc = .ok (.invokestatic 89, 3)) (hf : cells + mc ≤ R.cells ∧ slots + ms ≤ R.slots) : va_Run p l e R s m args below meth c H locs cells slots mc ms (F0 m pc ls st0) rest (Qc As.toArray) free :=
  gw_rS hF hT hM wm_2_156 wm_2_157 wm_1_2 wm_2_158 (by decide +kernel) hR hrc hrs hK hN hP hD hn hsize hstack hW hdg hf
theorem gc_L_37 (hF : CallFix p m c cc nL s args Ts R_L) (hT : ∀ w ∈ wG, w ∈ Ts) (hM : Met l y_X_widen w_X_widen rm (gw_Pc D classes tys (.ref b :: As) ws H.size) Qc mc ms free) (hR : rm.frames + 1 ≤ R.frames ∧ 8 + (4 + 11) + rm.locals ≤ R.locals) (hrc : rm.cells = mc) (hrs : rm.slots = ms) (hK : va_K D classes tys s) (hN : gN s) (hP : va_P D classes ws H) (hD : va_D A ws) (he : ws[q0]? = some (b, .inr (2, fs))) (hn : As.length = 3) (hsize : ls.size = nL) (hstack : st0 = As.reverse ++ .ref b :: rest) (hW : (rest.map fun v => v.category).sum ≤ 8) (hdg : decode cc pc = .ok (.invokevirtual 37, 3)) (hf : cells + mc ≤ R.cells ∧ slots + ms ≤ R.slots) : va_Run p l e R s m args below meth c H locs cells slots mc ms (F0 m pc ls st0) rest (Qc (Value.ref b :: As).toArray) free :=
  gw_rV (C := R_X) hF hT hM wm_2_162 wm_2_163 wm_2_164 wm_1_1 wm_2_165 (by decide +kernel) hR hrc hrs hK hN hP hD (ci := 2) rfl rfl he hn hsize hstack hW hdg hf
theorem gc_X_106 (hF : CallFix p m c cc nL s args Ts R_X) (hT : ∀ w ∈ wG, w ∈ Ts) (hM : Met l y_S_becomeWidened w_S_becomeWidened rm (gw_Pc D classes tys (.ref b :: As) ws H.size) Qc mc ms free) (hR : rm.frames + 1 ≤ R.frames ∧ 8 + (7 + 11) + rm.locals ≤ R.locals) (hrc : rm.cells = mc) (hrs : rm.slots = ms) (hK : va_K D classes tys s) (hN : gN s) (hP : va_P D classes ws H) (hD : va_D A ws) (he : ws[q0]? = some (b, .inr (1, fs))) (hn : As.length = 2) (hsize : ls.size = nL) (hstack : st0 = As.reverse ++ .ref b :: rest) (hW : (rest.map fun v => v.category).sum ≤ 8) (hdg : decode cc pc = .ok (.invokevirtual 106, 3)) (hf : cells + mc ≤ R.cells ∧ slots + ms ≤ R.slots) : va_Run p l e R s m args below meth c H locs cells slots mc ms (F0 m pc ls st0) rest (Qc (Value.ref b :: As).toArray) free :=
  gw_rV (C := R_S) hF hT hM wm_2_166 wm_2_167 wm_2_168 wm_1_3 wm_2_169 (by decide +kernel) hR hrc hrs hK hN hP hD (ci := 1) rfl rfl he hn hsize hstack hW hdg hf
theorem gc_L_40 (hF : CallFix p m c cc nL s args Ts R_L) (hT : ∀ w ∈ wG, w ∈ Ts) (hM : Met l y_X_narrow w_X_narrow rm (gw_Pc D classes tys (.ref b :: As) ws H.size) Qc mc ms free) (hR : rm.frames + 1 ≤ R.frames ∧ 8 + (4 + 11) + rm.locals ≤ R.locals) (hrc : rm.cells = mc) (hrs : rm.slots = ms) (hK : va_K D classes tys s) (hN : gN s) (hP : va_P D classes ws H) (hD : va_D A ws) (he : ws[q0]? = some (b, .inr (2, fs))) (hn : As.length = 3) (hsize : ls.size = nL) (hstack : st0 = As.reverse ++ .ref b :: rest) (hW : (rest.map fun v => v.category).sum ≤ 8) (hdg : decode cc pc = .ok (.invokevirtual 40, 3)) (hf : cells + mc ≤ R.cells ∧ slots + ms ≤ R.slots) : va_Run p l e R s m args below meth c H locs cells slots mc ms (F0 m pc ls st0) rest (Qc (Value.ref b :: As).toArray) free :=
  gw_rV (C := R_X) hF hT hM wm_2_173 wm_2_174 wm_2_175 wm_1_1 wm_2_176 (by decide +kernel) hR hrc hrs hK hN hP hD (ci := 2) rfl rfl he hn hsize hstack hW hdg hf
theorem gc_X_109 (hF : CallFix p m c cc nL s args Ts R_X) (hT : ∀ w ∈ wG, w ∈ Ts) (hM : Met l y_S_becomeNarrowed w_S_becomeNarrowed rm (gw_Pc D classes tys (.ref b :: As) ws H.size) Qc mc ms free) (hR : rm.frames + 1 ≤ R.frames ∧ 8 + (6 + 11) + rm.locals ≤ R.locals) (hrc : rm.cells = mc) (hrs : rm.slots = ms) (hK : va_K D classes tys s) (hN : gN s) (hP : va_P D classes ws H) (hD : va_D A ws) (he : ws[q0]? = some (b, .inr (1, fs))) (hn : As.length = 2) (hsize : ls.size = nL) (hstack : st0 = As.reverse ++ .ref b :: rest) (hW : (rest.map fun v => v.category).sum ≤ 8) (hdg : decode cc pc = .ok (.invokevirtual 109, 3)) (hf : cells + mc ≤ R.cells ∧ slots + ms ≤ R.slots) : va_Run p l e R s m args below meth c H locs cells slots mc ms (F0 m pc ls st0) rest (Qc (Value.ref b :: As).toArray) free :=
  gw_rV (C := R_S) hF hT hM wm_2_177 wm_2_178 wm_2_179 wm_1_3 wm_2_180 (by decide +kernel) hR hrc hrs hK hN hP hD (ci := 1) rfl rfl he hn hsize hstack hW hdg hf
theorem gc_L_43 (hF : CallFix p m c cc nL s args Ts R_L) (hT : ∀ w ∈ wG, w ∈ Ts) (hM : Met l y_X_copy w_X_copy rm (gw_Pc D classes tys (.ref b :: As) ws H.size) Qc mc ms free) (hR : rm.frames + 1 ≤ R.frames ∧ 8 + (3 + 11) + rm.locals ≤ R.locals) (hrc : rm.cells = mc) (hrs : rm.slots = ms) (hK : va_K D classes tys s) (hN : gN s) (hP : va_P D classes ws H) (hD : va_D A ws) (he : ws[q0]? = some (b, .inr (2, fs))) (hn : As.length = 2) (hsize : ls.size = nL) (hstack : st0 = As.reverse ++ .ref b :: rest) (hW : (rest.map fun v => v.category).sum ≤ 8) (hdg : decode cc pc = .ok (.invokevirtual 43, 3)) (hf : cells + mc ≤ R.cells ∧ slots + ms ≤ R.slots) : va_Run p l e R s m args below meth c H locs cells slots mc ms (F0 m pc ls st0) rest (Qc (Value.ref b :: As).toArray) free :=
  gw_rV (C := R_X) hF hT hM wm_2_184 wm_2_185 wm_2_186 wm_1_1 wm_2_187 (by decide +kernel) hR hrc hrs hK hN hP hD (ci := 2) rfl rfl he hn hsize hstack hW hdg hf
theorem gc_L_47 (hF : CallFix p m c cc nL s args Ts R_L) (hT : ∀ w ∈ wG, w ∈ Ts) (hM : Met l y_X_set w_X_set rm (gw_Pc D classes tys (.ref b :: As) ws H.size) Qc mc ms free) (hR : rm.frames + 1 ≤ R.frames ∧ 8 + (6 + 11) + rm.locals ≤ R.locals) (hrc : rm.cells = mc) (hrs : rm.slots = ms) (hK : va_K D classes tys s) (hN : gN s) (hP : va_P D classes ws H) (hD : va_D A ws) (he : ws[q0]? = some (b, .inr (2, fs))) (hn : As.length = 4) (hsize : ls.size = nL) (hstack : st0 = As.reverse ++ .ref b :: rest) (hW : (rest.map fun v => v.category).sum ≤ 8) (hdg : decode cc pc = .ok (.invokevirtual 47, 3)) (hf : cells + mc ≤ R.cells ∧ slots + ms ≤ R.slots) : va_Run p l e R s m args below meth c H locs cells slots mc ms (F0 m pc ls st0) rest (Qc (Value.ref b :: As).toArray) free :=
  gw_rV (C := R_X) hF hT hM wm_2_191 wm_2_192 wm_2_193 wm_1_1 wm_2_194 (by decide +kernel) hR hrc hrs hK hN hP hD (ci := 2) rfl rfl he hn hsize hstack hW hdg hf
theorem gc_X_112 (hF : CallFix p m c cc nL s args Ts R_X) (hT : ∀ w ∈ wG, w ∈ Ts) (hM : Met l y_X_checkName w_X_checkName rm (gw_Pc D classes tys (.ref b :: As) ws H.size) Qc mc ms free) (hR : rm.frames + 1 ≤ R.frames ∧ 8 + (2 + 11) + rm.locals ≤ R.locals) (hrc : rm.cells = mc) (hrs : rm.slots = ms) (hK : va_K D classes tys s) (hN : gN s) (hP : va_P D classes ws H) (hD : va_D A ws) (he : ws[q0]? = some (b, .inr (2, fs))) (hn : As.length = 1) (hsize : ls.size = nL) (hstack : st0 = As.reverse ++ .ref b :: rest) (hW : (rest.map fun v => v.category).sum ≤ 8) (hdg : decode cc pc = .ok (.invokevirtual 112, 3)) (hf : cells + mc ≤ R.cells ∧ slots + ms ≤ R.slots) : va_Run p l e R s m args below meth c H locs cells slots mc ms (F0 m pc ls st0) rest (Qc (Value.ref b :: As).toArray) free :=
  gw_rV (C := R_X) hF hT hM wm_2_195 wm_2_197 ws_X_checkName wm_1_1 wm_2_198 (by decide +kernel) hR hrc hrs hK hN hP hD (ci := 2) rfl rfl he hn hsize hstack hW hdg hf
theorem gc_X_115 (hF : CallFix p m c cc nL s args Ts R_X) (hT : ∀ w ∈ wG, w ∈ Ts) (hM : Met l y_S_becomeAssigned w_S_becomeAssigned rm (gw_Pc D classes tys (.ref b :: As) ws H.size) Qc mc ms free) (hR : rm.frames + 1 ≤ R.frames ∧ 8 + (10 + 11) + rm.locals ≤ R.locals) (hrc : rm.cells = mc) (hrs : rm.slots = ms) (hK : va_K D classes tys s) (hN : gN s) (hP : va_P D classes ws H) (hD : va_D A ws) (he : ws[q0]? = some (b, .inr (1, fs))) (hn : As.length = 4) (hsize : ls.size = nL) (hstack : st0 = As.reverse ++ .ref b :: rest) (hW : (rest.map fun v => v.category).sum ≤ 8) (hdg : decode cc pc = .ok (.invokevirtual 115, 3)) (hf : cells + mc ≤ R.cells ∧ slots + ms ≤ R.slots) : va_Run p l e R s m args below meth c H locs cells slots mc ms (F0 m pc ls st0) rest (Qc (Value.ref b :: As).toArray) free :=
  gw_rV (C := R_S) hF hT hM wm_2_200 wm_2_201 wm_2_202 wm_1_3 wm_2_203 (by decide +kernel) hR hrc hrs hK hN hP hD (ci := 1) rfl rfl he hn hsize hstack hW hdg hf
theorem gc_S_94 (hF : CallFix p m c cc nL s args Ts R_S) (hT : ∀ w ∈ wG, w ∈ Ts) (hM : Met l y_S_sourceOf w_S_sourceOf rm (gw_Pc D classes tys As ws H.size) Qc mc ms free) (hR : rm.frames + 1 ≤ R.frames ∧ 8 + (4 + 11) + rm.locals ≤ R.locals) (hrc : rm.cells = mc) (hrs : rm.slots = ms) (hK : va_K D classes tys s) (hN : gN s) (hP : va_P D classes ws H) (hD : va_D A ws) (hn : As.length = 3) (hsize : ls.size = nL) (hstack : st0 = As.reverse ++ rest) (hW : (rest.map fun v => v.category).sum ≤ 8) (hdg : decode cc pc = .ok (.invokestatic 94, 3)) (hf : cells + mc ≤ R.cells ∧ slots + ms ≤ R.slots) : va_Run p l e R s m args below meth c H locs cells slots mc ms (F0 m pc ls st0) rest (Qc As.toArray) free :=
  gw_rS hF hT hM wm_2_204 wm_2_205 wm_1_3 wm_2_206 (by decide +kernel) hR hrc hrs hK hN hP hD hn hsize hstack hW hdg hf
theorem gc_S_108 (hF : CallFix p m c cc nL s args Ts R_S) (hT : ∀ w ∈ wG, w ∈ Ts) (hM : Met l y_X_termAt w_X_termAt rm (gw_Pc D classes tys As ws H.size) Qc mc ms free) (hR : rm.frames + 1 ≤ R.frames ∧ 8 + (2 + 11) + rm.locals ≤ R.locals) (hrc : rm.cells = mc) (hrs : rm.slots = ms) (hK : va_K D classes tys s) (hN : gN s) (hP : va_P D classes ws H) (hD : va_D A ws) (hn : As.length = 1) (hsize : ls.size = nL) (hstack : st0 = As.reverse ++ rest) (hW : (rest.map fun v => v.category).sum ≤ 8) (hdg : decode cc pc = .ok (.invokestatic 108, 3)) (hf : cells + mc ≤ R.cells ∧ slots + ms ≤ R.slots) : va_Run p l e R s m args below meth c H locs cells slots mc ms (F0 m pc ls st0) rest (Qc As.toArray) free :=
  gw_rN (host := "LinearRows") hF hT hM (gN_15 hN) wm_2_208 wm_1_1 wm_2_209 (by decide +kernel) hR hrc hrs hK hN hP hD hn hsize hstack hW hdg hf
theorem gc_S_98 (hF : CallFix p m c cc nL s args Ts R_S) (hT : ∀ w ∈ wG, w ∈ Ts) (hM : Met l y_S_greatest w_S_greatest rm (gw_Pc D classes tys (.ref b :: As) ws H.size) Qc mc ms free) (hR : rm.frames + 1 ≤ R.frames ∧ 8 + (3 + 11) + rm.locals ≤ R.locals) (hrc : rm.cells = mc) (hrs : rm.slots = ms) (hK : va_K D classes tys s) (hN : gN s) (hP : va_P D classes ws H) (hD : va_D A ws) (he : ws[q0]? = some (b, .inr (1, fs))) (hn : As.length = 2) (hsize : ls.size = nL) (hstack : st0 = As.reverse ++ .ref b :: rest) (hW : (rest.map fun v => v.category).sum ≤ 8) (hdg : decode cc pc = .ok (.invokevirtual 98, 3)) (hf : cells + mc ≤ R.cells ∧ slots + ms ≤ R.slots) : va_Run p l e R s m args below meth c H locs cells slots mc ms (F0 m pc ls st0) rest (Qc (Value.ref b :: As).toArray) free :=
  gw_rV (C := R_S) hF hT hM wm_2_210 wm_2_105 wm_2_106 wm_1_3 wm_2_107 (by decide +kernel) hR hrc hrs hK hN hP hD (ci := 1) rfl rfl he hn hsize hstack hW hdg hf
theorem gc_S_101 (hF : CallFix p m c cc nL s args Ts R_S) (hT : ∀ w ∈ wG, w ∈ Ts) (hM : Met l y_S_addedTo w_S_addedTo rm (gw_Pc D classes tys As ws H.size) Qc mc ms free) (hR : rm.frames + 1 ≤ R.frames ∧ 8 + (5 + 11) + rm.locals ≤ R.locals) (hrc : rm.cells = mc) (hrs : rm.slots = ms) (hK : va_K D classes tys s) (hN : gN s) (hP : va_P D classes ws H) (hD : va_D A ws) (hn : As.length = 3) (hsize : ls.size = nL) (hstack : st0 = As.reverse ++ rest) (hW : (rest.map fun v => v.category).sum ≤ 8) (hdg : decode cc pc = .ok (.invokestatic 101, 3)) (hf : cells + mc ≤ R.cells ∧ slots + ms ≤ R.slots) : va_Run p l e R s m args below meth c H locs cells slots mc ms (F0 m pc ls st0) rest (Qc As.toArray) free :=
  gw_rS hF hT hM wm_2_211 wm_2_212 wm_1_3 wm_2_213 (by decide +kernel) hR hrc hrs hK hN hP hD hn hsize hstack hW hdg hf
theorem gc_S_105 (hF : CallFix p m c cc nL s args Ts R_S) (hT : ∀ w ∈ wG, w ∈ Ts) (hM : Met l y_X_plus w_X_plus rm (gw_Pc D classes tys As ws H.size) Qc mc ms free) (hR : rm.frames + 1 ≤ R.frames ∧ 8 + (4 + 11) + rm.locals ≤ R.locals) (hrc : rm.cells = mc) (hrs : rm.slots = ms) (hK : va_K D classes tys s) (hN : gN s) (hP : va_P D classes ws H) (hD : va_D A ws) (hn : As.length = 2) (hsize : ls.size = nL) (hstack : st0 = As.reverse ++ rest) (hW : (rest.map fun v => v.category).sum ≤ 8) (hdg : decode cc pc = .ok (.invokestatic 105, 3)) (hf : cells + mc ≤ R.cells ∧ slots + ms ≤ R.slots) : va_Run p l e R s m args below meth c H locs cells slots mc ms (F0 m pc ls st0) rest (Qc As.toArray) free :=
  gw_rN (host := "LinearRows") hF hT hM (gN_16 hN) wm_2_59 wm_1_1 wm_2_60 (by decide +kernel) hR hrc hrs hK hN hP hD hn hsize hstack hW hdg hf
theorem gc_L_50 (hF : CallFix p m c cc nL s args Ts R_L) (hT : ∀ w ∈ wG, w ∈ Ts) (hM : Met l y_X_forget w_X_forget rm (gw_Pc D classes tys (.ref b :: As) ws H.size) Qc mc ms free) (hR : rm.frames + 1 ≤ R.frames ∧ 8 + (3 + 11) + rm.locals ≤ R.locals) (hrc : rm.cells = mc) (hrs : rm.slots = ms) (hK : va_K D classes tys s) (hN : gN s) (hP : va_P D classes ws H) (hD : va_D A ws) (he : ws[q0]? = some (b, .inr (2, fs))) (hn : As.length = 2) (hsize : ls.size = nL) (hstack : st0 = As.reverse ++ .ref b :: rest) (hW : (rest.map fun v => v.category).sum ≤ 8) (hdg : decode cc pc = .ok (.invokevirtual 50, 3)) (hf : cells + mc ≤ R.cells ∧ slots + ms ≤ R.slots) : va_Run p l e R s m args below meth c H locs cells slots mc ms (F0 m pc ls st0) rest (Qc (Value.ref b :: As).toArray) free :=
  gw_rV (C := R_X) hF hT hM wm_2_218 wm_2_219 wm_2_220 wm_1_1 wm_2_221 (by decide +kernel) hR hrc hrs hK hN hP hD (ci := 2) rfl rfl he hn hsize hstack hW hdg hf
theorem gc_X_119 (hF : CallFix p m c cc nL s args Ts R_X) (hT : ∀ w ∈ wG, w ∈ Ts) (hM : Met l y_S_becomeFree w_S_becomeFree rm (gw_Pc D classes tys (.ref b :: As) ws H.size) Qc mc ms free) (hR : rm.frames + 1 ≤ R.frames ∧ 8 + (4 + 11) + rm.locals ≤ R.locals) (hrc : rm.cells = mc) (hrs : rm.slots = ms) (hK : va_K D classes tys s) (hN : gN s) (hP : va_P D classes ws H) (hD : va_D A ws) (he : ws[q0]? = some (b, .inr (1, fs))) (hn : As.length = 2) (hsize : ls.size = nL) (hstack : st0 = As.reverse ++ .ref b :: rest) (hW : (rest.map fun v => v.category).sum ≤ 8) (hdg : decode cc pc = .ok (.invokevirtual 119, 3)) (hf : cells + mc ≤ R.cells ∧ slots + ms ≤ R.slots) : va_Run p l e R s m args below meth c H locs cells slots mc ms (F0 m pc ls st0) rest (Qc (Value.ref b :: As).toArray) free :=
  gw_rV (C := R_S) hF hT hM wm_2_222 wm_2_223 wm_2_224 wm_1_3 wm_2_225 (by decide +kernel) hR hrc hrs hK hN hP hD (ci := 1) rfl rfl he hn hsize hstack hW hdg hf
theorem gc_L_54 (hF : CallFix p m c cc nL s args Ts R_L) (hT : ∀ w ∈ wG, w ∈ Ts) (hM : Met l y_X_within w_X_within rm (gw_Pc D classes tys (.ref b :: As) ws H.size) Qc mc ms free) (hR : rm.frames + 1 ≤ R.frames ∧ 8 + (3 + 11) + rm.locals ≤ R.locals) (hrc : rm.cells = mc) (hrs : rm.slots = ms) (hK : va_K D classes tys s) (hN : gN s) (hP : va_P D classes ws H) (hD : va_D A ws) (he : ws[q0]? = some (b, .inr (2, fs))) (hn : As.length = 2) (hsize : ls.size = nL) (hstack : st0 = As.reverse ++ .ref b :: rest) (hW : (rest.map fun v => v.category).sum ≤ 8) (hdg : decode cc pc = .ok (.invokevirtual 54, 3)) (hf : cells + mc ≤ R.cells ∧ slots + ms ≤ R.slots) : va_Run p l e R s m args below meth c H locs cells slots mc ms (F0 m pc ls st0) rest (Qc (Value.ref b :: As).toArray) free :=
  gw_rV (C := R_X) hF hT hM wm_2_229 wm_2_230 wm_2_231 wm_1_1 wm_2_232 (by decide +kernel) hR hrc hrs hK hN hP hD (ci := 2) rfl rfl he hn hsize hstack hW hdg hf
theorem gc_X_130 (hF : CallFix p m c cc nL s args Ts R_X) (hT : ∀ w ∈ wG, w ∈ Ts) (hM : Met l y_T_isNowhereAbove w_T_isNowhereAbove rm (gw_Pc D classes tys (.ref b :: As) ws H.size) Qc mc ms free) (hR : rm.frames + 1 ≤ R.frames ∧ 8 + (4 + 11) + rm.locals ≤ R.locals) (hrc : rm.cells = mc) (hrs : rm.slots = ms) (hK : va_K D classes tys s) (hN : gN s) (hP : va_P D classes ws H) (hD : va_D A ws) (he : ws[q0]? = some (b, .inr (0, fs))) (hn : As.length = 1) (hsize : ls.size = nL) (hstack : st0 = As.reverse ++ .ref b :: rest) (hW : (rest.map fun v => v.category).sum ≤ 8) (hdg : decode cc pc = .ok (.invokevirtual 130, 3)) (hf : cells + mc ≤ R.cells ∧ slots + ms ≤ R.slots) : va_Run p l e R s m args below meth c H locs cells slots mc ms (F0 m pc ls st0) rest (Qc (Value.ref b :: As).toArray) free :=
  gw_rV (C := R_T) hF hT hM wm_2_233 wm_2_234 wm_2_235 wm_1_4 wm_2_236 (by decide +kernel) hR hrc hrs hK hN hP hD (ci := 0) rfl rfl he hn hsize hstack hW hdg hf
theorem gc_L_58 (hF : CallFix p m c cc nL s args Ts R_L) (hT : ∀ w ∈ wG, w ∈ Ts) (hM : Met l y_X_put w_X_put rm (gw_Pc D classes tys (.ref b :: As) ws H.size) Qc mc ms free) (hR : rm.frames + 1 ≤ R.frames ∧ 8 + (6 + 11) + rm.locals ≤ R.locals) (hrc : rm.cells = mc) (hrs : rm.slots = ms) (hK : va_K D classes tys s) (hN : gN s) (hP : va_P D classes ws H) (hD : va_D A ws) (he : ws[q0]? = some (b, .inr (2, fs))) (hn : As.length = 2) (hsize : ls.size = nL) (hstack : st0 = As.reverse ++ .ref b :: rest) (hW : (rest.map fun v => v.category).sum ≤ 8) (hdg : decode cc pc = .ok (.invokevirtual 58, 3)) (hf : cells + mc ≤ R.cells ∧ slots + ms ≤ R.slots) : va_Run p l e R s m args below meth c H locs cells slots mc ms (F0 m pc ls st0) rest (Qc (Value.ref b :: As).toArray) free :=
  gw_rV (C := R_X) hF hT hM wm_3_0 wm_3_1 wm_3_2 wm_1_1 wm_3_3 (by decide +kernel) hR hrc hrs hK hN hP hD (ci := 2) rfl rfl he hn hsize hstack hW hdg hf
theorem gc_L_62 (hF : CallFix p m c cc nL s args Ts R_L) (hT : ∀ w ∈ wG, w ∈ Ts) (hM : Met l y_X_point w_X_point rm (gw_Pc D classes tys (.ref b :: As) ws H.size) Qc mc ms free) (hR : rm.frames + 1 ≤ R.frames ∧ 8 + (2 + 11) + rm.locals ≤ R.locals) (hrc : rm.cells = mc) (hrs : rm.slots = ms) (hK : va_K D classes tys s) (hN : gN s) (hP : va_P D classes ws H) (hD : va_D A ws) (he : ws[q0]? = some (b, .inr (2, fs))) (hn : As.length = 1) (hsize : ls.size = nL) (hstack : st0 = As.reverse ++ .ref b :: rest) (hW : (rest.map fun v => v.category).sum ≤ 8) (hdg : decode cc pc = .ok (.invokevirtual 62, 3)) (hf : cells + mc ≤ R.cells ∧ slots + ms ≤ R.slots) : va_Run p l e R s m args below meth c H locs cells slots mc ms (F0 m pc ls st0) rest (Qc (Value.ref b :: As).toArray) free :=
  gw_rV (C := R_X) hF hT hM wm_3_7 wm_3_8 wm_3_9 wm_1_1 wm_3_10 (by decide +kernel) hR hrc hrs hK hN hP hD (ci := 2) rfl rfl he hn hsize hstack hW hdg hf
theorem gc_L_66 (hF : CallFix p m c cc nL s args Ts R_L) (hT : ∀ w ∈ wG, w ∈ Ts) (hM : Met l y_X_has w_X_has rm (gw_Pc D classes tys (.ref b :: As) ws H.size) Qc mc ms free) (hR : rm.frames + 1 ≤ R.frames ∧ 8 + (4 + 11) + rm.locals ≤ R.locals) (hrc : rm.cells = mc) (hrs : rm.slots = ms) (hK : va_K D classes tys s) (hN : gN s) (hP : va_P D classes ws H) (hD : va_D A ws) (he : ws[q0]? = some (b, .inr (2, fs))) (hn : As.length = 1) (hsize : ls.size = nL) (hstack : st0 = As.reverse ++ .ref b :: rest) (hW : (rest.map fun v => v.category).sum ≤ 8) (hdg : decode cc pc = .ok (.invokevirtual 66, 3)) (hf : cells + mc ≤ R.cells ∧ slots + ms ≤ R.slots) : va_Run p l e R s m args below meth c H locs cells slots mc ms (F0 m pc ls st0) rest (Qc (Value.ref b :: As).toArray) free :=
  gw_rV (C := R_X) hF hT hM wm_3_14 wm_3_15 wm_3_16 wm_1_1 wm_3_17 (by decide +kernel) hR hrc hrs hK hN hP hD (ci := 2) rfl rfl he hn hsize hstack hW hdg hf
theorem gc_X_134 (hF : CallFix p m c cc nL s args Ts R_X) (hT : ∀ w ∈ wG, w ∈ Ts) (hM : Met l y_X_numberAt w_X_numberAt rm (gw_Pc D classes tys (.ref b :: As) ws H.size) Qc mc ms free) (hR : rm.frames + 1 ≤ R.frames ∧ 8 + (4 + 11) + rm.locals ≤ R.locals) (hrc : rm.cells = mc) (hrs : rm.slots = ms) (hK : va_K D classes tys s) (hN : gN s) (hP : va_P D classes ws H) (hD : va_D A ws) (he : ws[q0]? = some (b, .inr (2, fs))) (hn : As.length = 1) (hsize : ls.size = nL) (hstack : st0 = As.reverse ++ .ref b :: rest) (hW : (rest.map fun v => v.category).sum ≤ 8) (hdg : decode cc pc = .ok (.invokevirtual 134, 3)) (hf : cells + mc ≤ R.cells ∧ slots + ms ≤ R.slots) : va_Run p l e R s m args below meth c H locs cells slots mc ms (F0 m pc ls st0) rest (Qc (Value.ref b :: As).toArray) free :=
  gw_rV (C := R_X) hF hT hM wm_3_18 wm_3_20 ws_X_numberAt wm_1_1 wm_3_21 (by decide +kernel) hR hrc hrs hK hN hP hD (ci := 2) rfl rfl he hn hsize hstack hW hdg hf
theorem gc_X_138 (hF : CallFix p m c cc nL s args Ts R_X) (hT : ∀ w ∈ wG, w ∈ Ts) (hM : Met l y_T_at w_T_at rm (gw_Pc D classes tys (.ref b :: As) ws H.size) Qc mc ms free) (hR : rm.frames + 1 ≤ R.frames ∧ 8 + (3 + 11) + rm.locals ≤ R.locals) (hrc : rm.cells = mc) (hrs : rm.slots = ms) (hK : va_K D classes tys s) (hN : gN s) (hP : va_P D classes ws H) (hD : va_D A ws) (he : ws[q0]? = some (b, .inr (0, fs))) (hn : As.length = 2) (hsize : ls.size = nL) (hstack : st0 = As.reverse ++ .ref b :: rest) (hW : (rest.map fun v => v.category).sum ≤ 8) (hdg : decode cc pc = .ok (.invokevirtual 138, 3)) (hf : cells + mc ≤ R.cells ∧ slots + ms ≤ R.slots) : va_Run p l e R s m args below meth c H locs cells slots mc ms (F0 m pc ls st0) rest (Qc (Value.ref b :: As).toArray) free :=
  gw_rV (C := R_T) hF hT hM wm_3_22 wm_2_18 wm_2_19 wm_1_4 wm_2_20 (by decide +kernel) hR hrc hrs hK hN hP hD (ci := 0) rfl rfl he hn hsize hstack hW hdg hf
theorem gc_L_70 (hF : CallFix p m c cc nL s args Ts R_L) (hT : ∀ w ∈ wG, w ∈ Ts) (hM : Met l y_X_sample w_X_sample rm (gw_Pc D classes tys (.ref b :: As) ws H.size) Qc mc ms free) (hR : rm.frames + 1 ≤ R.frames ∧ 8 + (3 + 11) + rm.locals ≤ R.locals) (hrc : rm.cells = mc) (hrs : rm.slots = ms) (hK : va_K D classes tys s) (hN : gN s) (hP : va_P D classes ws H) (hD : va_D A ws) (he : ws[q0]? = some (b, .inr (2, fs))) (hn : As.length = 1) (hsize : ls.size = nL) (hstack : st0 = As.reverse ++ .ref b :: rest) (hW : (rest.map fun v => v.category).sum ≤ 8) (hdg : decode cc pc = .ok (.invokevirtual 70, 3)) (hf : cells + mc ≤ R.cells ∧ slots + ms ≤ R.slots) : va_Run p l e R s m args below meth c H locs cells slots mc ms (F0 m pc ls st0) rest (Qc (Value.ref b :: As).toArray) free :=
  gw_rV (C := R_X) hF hT hM wm_3_26 wm_3_27 wm_3_28 wm_1_1 wm_3_29 (by decide +kernel) hR hrc hrs hK hN hP hD (ci := 2) rfl rfl he hn hsize hstack hW hdg hf
theorem gc_X_141 (hF : CallFix p m c cc nL s args Ts R_X) (hT : ∀ w ∈ wG, w ∈ Ts) (hM : Met l y_X_sampleNumber w_X_sampleNumber rm (gw_Pc D classes tys (.ref b :: As) ws H.size) Qc mc ms free) (hR : rm.frames + 1 ≤ R.frames ∧ 8 + (7 + 11) + rm.locals ≤ R.locals) (hrc : rm.cells = mc) (hrs : rm.slots = ms) (hK : va_K D classes tys s) (hN : gN s) (hP : va_P D classes ws H) (hD : va_D A ws) (he : ws[q0]? = some (b, .inr (2, fs))) (hn : As.length = 2) (hsize : ls.size = nL) (hstack : st0 = As.reverse ++ .ref b :: rest) (hW : (rest.map fun v => v.category).sum ≤ 8) (hdg : decode cc pc = .ok (.invokevirtual 141, 3)) (hf : cells + mc ≤ R.cells ∧ slots + ms ≤ R.slots) : va_Run p l e R s m args below meth c H locs cells slots mc ms (F0 m pc ls st0) rest (Qc (Value.ref b :: As).toArray) free :=
  gw_rV (C := R_X) hF hT hM wm_3_30 wm_3_32 ws_X_sampleNumber wm_1_1 wm_3_33 (by decide +kernel) hR hrc hrs hK hN hP hD (ci := 2) rfl rfl he hn hsize hstack hW hdg hf
theorem gc_X_177 (hF : CallFix p m c cc nL s args Ts R_X) (hT : ∀ w ∈ wG, w ∈ Ts) (hM : Met l y_X_placeOf w_X_placeOf rm (gw_Pc D classes tys As ws H.size) Qc mc ms free) (hR : rm.frames + 1 ≤ R.frames ∧ 8 + (1 + 11) + rm.locals ≤ R.locals) (hrc : rm.cells = mc) (hrs : rm.slots = ms) (hK : va_K D classes tys s) (hN : gN s) (hP : va_P D classes ws H) (hD : va_D A ws) (hn : As.length = 1) (hsize : ls.size = nL) (hstack : st0 = As.reverse ++ rest) (hW : (rest.map fun v => v.category).sum ≤ 8) (hdg : decode cc pc = .ok (.invokestatic 177, 3)) (hf : cells + mc ≤ R.cells ∧ slots + ms ≤ R.slots) : va_Run p l e R s m args below meth c H locs cells slots mc ms (F0 m pc ls st0) rest (Qc As.toArray) free :=
  gw_rS hF hT hM wm_3_34 wm_2_10 wm_1_1 wm_2_11 (by decide +kernel) hR hrc hrs hK hN hP hD hn hsize hstack hW hdg hf
theorem gc_X_216 (hF : CallFix p m c cc nL s args Ts R_X) (hT : ∀ w ∈ wG, w ∈ Ts) (hM : Met l y_X_greatestBeside w_X_greatestBeside rm (gw_Pc D classes tys (.ref b :: As) ws H.size) Qc mc ms free) (hR : rm.frames + 1 ≤ R.frames ∧ 8 + (7 + 11) + rm.locals ≤ R.locals) (hrc : rm.cells = mc) (hrs : rm.slots = ms) (hK : va_K D classes tys s) (hN : gN s) (hP : va_P D classes ws H) (hD : va_D A ws) (he : ws[q0]? = some (b, .inr (2, fs))) (hn : As.length = 2) (hsize : ls.size = nL) (hstack : st0 = As.reverse ++ .ref b :: rest) (hW : (rest.map fun v => v.category).sum ≤ 8) (hdg : decode cc pc = .ok (.invokevirtual 216, 3)) (hf : cells + mc ≤ R.cells ∧ slots + ms ≤ R.slots) : va_Run p l e R s m args below meth c H locs cells slots mc ms (F0 m pc ls st0) rest (Qc (Value.ref b :: As).toArray) free :=
  gw_rV (C := R_X) hF hT hM wm_3_35 wm_3_37 ws_X_greatestBeside wm_1_1 wm_3_38 (by decide +kernel) hR hrc hrs hK hN hP hD (ci := 2) rfl rfl he hn hsize hstack hW hdg hf
theorem gc_X_219 (hF : CallFix p m c cc nL s args Ts R_X) (hT : ∀ w ∈ wG, w ∈ Ts) (hM : Met l y_T_half w_T_half rm (gw_Pc D classes tys (.ref b :: As) ws H.size) Qc mc ms free) (hR : rm.frames + 1 ≤ R.frames ∧ 8 + (2 + 11) + rm.locals ≤ R.locals) (hrc : rm.cells = mc) (hrs : rm.slots = ms) (hK : va_K D classes tys s) (hN : gN s) (hP : va_P D classes ws H) (hD : va_D A ws) (he : ws[q0]? = some (b, .inr (0, fs))) (hn : As.length = 1) (hsize : ls.size = nL) (hstack : st0 = As.reverse ++ .ref b :: rest) (hW : (rest.map fun v => v.category).sum ≤ 8) (hdg : decode cc pc = .ok (.invokevirtual 219, 3)) (hf : cells + mc ≤ R.cells ∧ slots + ms ≤ R.slots) : va_Run p l e R s m args below meth c H locs cells slots mc ms (F0 m pc ls st0) rest (Qc (Value.ref b :: As).toArray) free :=
  gw_rV (C := R_T) hF hT hM wm_3_39 wm_2_67 wm_2_68 wm_1_4 wm_2_69 (by decide +kernel) hR hrc hrs hK hN hP hD (ci := 0) rfl rfl he hn hsize hstack hW hdg hf
theorem gc_X_222 (hF : CallFix p m c cc nL s args Ts R_X) (hT : ∀ w ∈ wG, w ∈ Ts) (hM : Met l y_X_plus w_X_plus rm (gw_Pc D classes tys As ws H.size) Qc mc ms free) (hR : rm.frames + 1 ≤ R.frames ∧ 8 + (4 + 11) + rm.locals ≤ R.locals) (hrc : rm.cells = mc) (hrs : rm.slots = ms) (hK : va_K D classes tys s) (hN : gN s) (hP : va_P D classes ws H) (hD : va_D A ws) (hn : As.length = 2) (hsize : ls.size = nL) (hstack : st0 = As.reverse ++ rest) (hW : (rest.map fun v => v.category).sum ≤ 8) (hdg : decode cc pc = .ok (.invokestatic 222, 3)) (hf : cells + mc ≤ R.cells ∧ slots + ms ≤ R.slots) : va_Run p l e R s m args below meth c H locs cells slots mc ms (F0 m pc ls st0) rest (Qc As.toArray) free :=
  gw_rS hF hT hM wm_3_40 wm_2_59 wm_1_1 wm_2_60 (by decide +kernel) hR hrc hrs hK hN hP hD hn hsize hstack hW hdg hf
theorem gc_X_226 (hF : CallFix p m c cc nL s args Ts R_X) (hT : ∀ w ∈ wG, w ∈ Ts) (hM : Met l y_JM_min_JJJ w_JM_min_JJJ rm (gw_Pc D classes tys As ws H.size) Qc mc ms free) (hR : rm.frames + 1 ≤ R.frames ∧ 8 + (4 + 11) + rm.locals ≤ R.locals) (hrc : rm.cells = mc) (hrs : rm.slots = ms) (hK : va_K D classes tys s) (hN : gN s) (hP : va_P D classes ws H) (hD : va_D A ws) (hn : As.length = 2) (hsize : ls.size = nL) (hstack : st0 = As.reverse ++ rest) (hW : (rest.map fun v => v.category).sum ≤ 8) (hdg : decode cc pc = .ok (.invokestatic 226, 3)) (hf : cells + mc ≤ R.cells ∧ slots + ms ≤ R.slots) : va_Run p l e R s m args below meth c H locs cells slots mc ms (F0 m pc ls st0) rest (Qc As.toArray) free :=
  gw_rS hF hT hM wm_3_41 wm_2_22 wm_1_2 wm_2_23 (by decide +kernel) hR hrc hrs hK hN hP hD hn hsize hstack hW hdg hf
theorem gc_L_73 (hF : CallFix p m c cc nL s args Ts R_L) (hT : ∀ w ∈ wG, w ∈ Ts) (hM : Met l y_X_needed w_X_needed rm (gw_Pc D classes tys (.ref b :: As) ws H.size) Qc mc ms free) (hR : rm.frames + 1 ≤ R.frames ∧ 8 + (2 + 11) + rm.locals ≤ R.locals) (hrc : rm.cells = mc) (hrs : rm.slots = ms) (hK : va_K D classes tys s) (hN : gN s) (hP : va_P D classes ws H) (hD : va_D A ws) (he : ws[q0]? = some (b, .inr (2, fs))) (hn : As.length = 1) (hsize : ls.size = nL) (hstack : st0 = As.reverse ++ .ref b :: rest) (hW : (rest.map fun v => v.category).sum ≤ 8) (hdg : decode cc pc = .ok (.invokevirtual 73, 3)) (hf : cells + mc ≤ R.cells ∧ slots + ms ≤ R.slots) : va_Run p l e R s m args below meth c H locs cells slots mc ms (F0 m pc ls st0) rest (Qc (Value.ref b :: As).toArray) free :=
  gw_rV (C := R_X) hF hT hM wm_3_45 wm_3_46 wm_3_47 wm_1_1 wm_3_48 (by decide +kernel) hR hrc hrs hK hN hP hD (ci := 2) rfl rfl he hn hsize hstack hW hdg hf
theorem gc_X_147 (hF : CallFix p m c cc nL s args Ts R_X) (hT : ∀ w ∈ wG, w ∈ Ts) (hM : Met l y_X_tellRow w_X_tellRow rm (gw_Pc D classes tys (.ref b :: As) ws H.size) Qc mc ms free) (hR : rm.frames + 1 ≤ R.frames ∧ 8 + (6 + 11) + rm.locals ≤ R.locals) (hrc : rm.cells = mc) (hrs : rm.slots = ms) (hK : va_K D classes tys s) (hN : gN s) (hP : va_P D classes ws H) (hD : va_D A ws) (he : ws[q0]? = some (b, .inr (2, fs))) (hn : As.length = 3) (hsize : ls.size = nL) (hstack : st0 = As.reverse ++ .ref b :: rest) (hW : (rest.map fun v => v.category).sum ≤ 8) (hdg : decode cc pc = .ok (.invokevirtual 147, 3)) (hf : cells + mc ≤ R.cells ∧ slots + ms ≤ R.slots) : va_Run p l e R s m args below meth c H locs cells slots mc ms (F0 m pc ls st0) rest (Qc (Value.ref b :: As).toArray) free :=
  gw_rV (C := R_X) hF hT hM wm_3_50 wm_3_52 ws_X_tellRow wm_1_1 wm_3_53 (by decide +kernel) hR hrc hrs hK hN hP hD (ci := 2) rfl rfl he hn hsize hstack hW hdg hf
theorem gc_X_150 (hF : CallFix p m c cc nL s args Ts R_X) (hT : ∀ w ∈ wG, w ∈ Ts) (hM : Met l y_T_takeFrom w_T_takeFrom rm (gw_Pc D classes tys (.ref b :: As) ws H.size) Qc mc ms free) (hR : rm.frames + 1 ≤ R.frames ∧ 8 + (2 + 11) + rm.locals ≤ R.locals) (hrc : rm.cells = mc) (hrs : rm.slots = ms) (hK : va_K D classes tys s) (hN : gN s) (hP : va_P D classes ws H) (hD : va_D A ws) (he : ws[q0]? = some (b, .inr (0, fs))) (hn : As.length = 1) (hsize : ls.size = nL) (hstack : st0 = As.reverse ++ .ref b :: rest) (hW : (rest.map fun v => v.category).sum ≤ 8) (hdg : decode cc pc = .ok (.invokevirtual 150, 3)) (hf : cells + mc ≤ R.cells ∧ slots + ms ≤ R.slots) : va_Run p l e R s m args below meth c H locs cells slots mc ms (F0 m pc ls st0) rest (Qc (Value.ref b :: As).toArray) free :=
  gw_rV (C := R_T) hF hT hM wm_3_54 wm_1_233 wm_1_234 wm_1_4 wm_1_235 (by decide +kernel) hR hrc hrs hK hN hP hD (ci := 0) rfl rfl he hn hsize hstack hW hdg hf
theorem gc_X_154 (hF : CallFix p m c cc nL s args Ts R_X) (hT : ∀ w ∈ wG, w ∈ Ts) (hM : Met l y_X_leaveOutPairs w_X_leaveOutPairs rm (gw_Pc D classes tys (.ref b :: As) ws H.size) Qc mc ms free) (hR : rm.frames + 1 ≤ R.frames ∧ 8 + (3 + 11) + rm.locals ≤ R.locals) (hrc : rm.cells = mc) (hrs : rm.slots = ms) (hK : va_K D classes tys s) (hN : gN s) (hP : va_P D classes ws H) (hD : va_D A ws) (he : ws[q0]? = some (b, .inr (2, fs))) (hn : As.length = 0) (hsize : ls.size = nL) (hstack : st0 = As.reverse ++ .ref b :: rest) (hW : (rest.map fun v => v.category).sum ≤ 8) (hdg : decode cc pc = .ok (.invokevirtual 154, 3)) (hf : cells + mc ≤ R.cells ∧ slots + ms ≤ R.slots) : va_Run p l e R s m args below meth c H locs cells slots mc ms (F0 m pc ls st0) rest (Qc (Value.ref b :: As).toArray) free :=
  gw_rV (C := R_X) hF hT hM wm_3_55 wm_3_57 ws_X_leaveOutPairs wm_1_1 wm_3_58 (by decide +kernel) hR hrc hrs hK hN hP hD (ci := 2) rfl rfl he hn hsize hstack hW hdg hf
theorem gc_X_228 (hF : CallFix p m c cc nL s args Ts R_X) (hT : ∀ w ∈ wG, w ∈ Ts) (hM : Met l y_X_placeOfNextName w_X_placeOfNextName rm (gw_Pc D classes tys As ws H.size) Qc mc ms free) (hR : rm.frames + 1 ≤ R.frames ∧ 8 + (1 + 11) + rm.locals ≤ R.locals) (hrc : rm.cells = mc) (hrs : rm.slots = ms) (hK : va_K D classes tys s) (hN : gN s) (hP : va_P D classes ws H) (hD : va_D A ws) (hn : As.length = 1) (hsize : ls.size = nL) (hstack : st0 = As.reverse ++ rest) (hW : (rest.map fun v => v.category).sum ≤ 8) (hdg : decode cc pc = .ok (.invokestatic 228, 3)) (hf : cells + mc ≤ R.cells ∧ slots + ms ≤ R.slots) : va_Run p l e R s m args below meth c H locs cells slots mc ms (F0 m pc ls st0) rest (Qc As.toArray) free :=
  gw_rS hF hT hM wm_3_59 wm_3_60 wm_1_1 wm_3_61 (by decide +kernel) hR hrc hrs hK hN hP hD hn hsize hstack hW hdg hf
theorem gc_X_231 (hF : CallFix p m c cc nL s args Ts R_X) (hT : ∀ w ∈ wG, w ∈ Ts) (hM : Met l y_X_leaveOutUnlessNeeded w_X_leaveOutUnlessNeeded rm (gw_Pc D classes tys (.ref b :: As) ws H.size) Qc mc ms free) (hR : rm.frames + 1 ≤ R.frames ∧ 8 + (5 + 11) + rm.locals ≤ R.locals) (hrc : rm.cells = mc) (hrs : rm.slots = ms) (hK : va_K D classes tys s) (hN : gN s) (hP : va_P D classes ws H) (hD : va_D A ws) (he : ws[q0]? = some (b, .inr (2, fs))) (hn : As.length = 2) (hsize : ls.size = nL) (hstack : st0 = As.reverse ++ .ref b :: rest) (hW : (rest.map fun v => v.category).sum ≤ 8) (hdg : decode cc pc = .ok (.invokevirtual 231, 3)) (hf : cells + mc ≤ R.cells ∧ slots + ms ≤ R.slots) : va_Run p l e R s m args below meth c H locs cells slots mc ms (F0 m pc ls st0) rest (Qc (Value.ref b :: As).toArray) free :=
  gw_rV (C := R_X) hF hT hM wm_3_62 wm_3_64 ws_X_leaveOutUnlessNeeded wm_1_1 wm_3_65 (by decide +kernel) hR hrc hrs hK hN hP hD (ci := 2) rfl rfl he hn hsize hstack hW hdg hf
theorem gc_X_235 (hF : CallFix p m c cc nL s args Ts R_X) (hT : ∀ w ∈ wG, w ∈ Ts) (hM : Met l y_T_store w_T_store rm (gw_Pc D classes tys (.ref b :: As) ws H.size) Qc mc ms free) (hR : rm.frames + 1 ≤ R.frames ∧ 8 + (5 + 11) + rm.locals ≤ R.locals) (hrc : rm.cells = mc) (hrs : rm.slots = ms) (hK : va_K D classes tys s) (hN : gN s) (hP : va_P D classes ws H) (hD : va_D A ws) (he : ws[q0]? = some (b, .inr (0, fs))) (hn : As.length = 3) (hsize : ls.size = nL) (hstack : st0 = As.reverse ++ .ref b :: rest) (hW : (rest.map fun v => v.category).sum ≤ 8) (hdg : decode cc pc = .ok (.invokevirtual 235, 3)) (hf : cells + mc ≤ R.cells ∧ slots + ms ≤ R.slots) : va_Run p l e R s m args below meth c H locs cells slots mc ms (F0 m pc ls st0) rest (Qc (Value.ref b :: As).toArray) free :=
  gw_rV (C := R_T) hF hT hM wm_3_66 wm_2_25 wm_2_26 wm_1_4 wm_2_27 (by decide +kernel) hR hrc hrs hK hN hP hD (ci := 0) rfl rfl he hn hsize hstack hW hdg hf
theorem gc_X_183 (hF : CallFix p m c cc nL s args Ts R_X) (hT : ∀ w ∈ wG, w ∈ Ts) (hM : Met l y_T_close w_T_close rm (gw_Pc D classes tys (.ref b :: As) ws H.size) Qc mc ms free) (hR : rm.frames + 1 ≤ R.frames ∧ 8 + (2 + 11) + rm.locals ≤ R.locals) (hrc : rm.cells = mc) (hrs : rm.slots = ms) (hK : va_K D classes tys s) (hN : gN s) (hP : va_P D classes ws H) (hD : va_D A ws) (he : ws[q0]? = some (b, .inr (0, fs))) (hn : As.length = 0) (hsize : ls.size = nL) (hstack : st0 = As.reverse ++ .ref b :: rest) (hW : (rest.map fun v => v.category).sum ≤ 8) (hdg : decode cc pc = .ok (.invokevirtual 183, 3)) (hf : cells + mc ≤ R.cells ∧ slots + ms ≤ R.slots) : va_Run p l e R s m args below meth c H locs cells slots mc ms (F0 m pc ls st0) rest (Qc (Value.ref b :: As).toArray) free :=
  gw_rV (C := R_T) hF hT hM wm_3_67 wm_2_36 wm_2_37 wm_1_4 wm_2_38 (by decide +kernel) hR hrc hrs hK hN hP hD (ci := 0) rfl rfl he hn hsize hstack hW hdg hf
theorem gc_X_157 (hF : CallFix p m c cc nL s args Ts R_X) (hT : ∀ w ∈ wG, w ∈ Ts) (hM : Met l y_X_leaveOutSingles w_X_leaveOutSingles rm (gw_Pc D classes tys (.ref b :: As) ws H.size) Qc mc ms free) (hR : rm.frames + 1 ≤ R.frames ∧ 8 + (2 + 11) + rm.locals ≤ R.locals) (hrc : rm.cells = mc) (hrs : rm.slots = ms) (hK : va_K D classes tys s) (hN : gN s) (hP : va_P D classes ws H) (hD : va_D A ws) (he : ws[q0]? = some (b, .inr (2, fs))) (hn : As.length = 0) (hsize : ls.size = nL) (hstack : st0 = As.reverse ++ .ref b :: rest) (hW : (rest.map fun v => v.category).sum ≤ 8) (hdg : decode cc pc = .ok (.invokevirtual 157, 3)) (hf : cells + mc ≤ R.cells ∧ slots + ms ≤ R.slots) : va_Run p l e R s m args below meth c H locs cells slots mc ms (F0 m pc ls st0) rest (Qc (Value.ref b :: As).toArray) free :=
  gw_rV (C := R_X) hF hT hM wm_3_68 wm_3_70 ws_X_leaveOutSingles wm_1_1 wm_3_71 (by decide +kernel) hR hrc hrs hK hN hP hD (ci := 2) rfl rfl he hn hsize hstack hW hdg hf
theorem gc_X_160 (hF : CallFix p m c cc nL s args Ts R_X) (hT : ∀ w ∈ wG, w ∈ Ts) (hM : Met l y_X_tellLeftRows w_X_tellLeftRows rm (gw_Pc D classes tys (.ref b :: As) ws H.size) Qc mc ms free) (hR : rm.frames + 1 ≤ R.frames ∧ 8 + (3 + 11) + rm.locals ≤ R.locals) (hrc : rm.cells = mc) (hrs : rm.slots = ms) (hK : va_K D classes tys s) (hN : gN s) (hP : va_P D classes ws H) (hD : va_D A ws) (he : ws[q0]? = some (b, .inr (2, fs))) (hn : As.length = 0) (hsize : ls.size = nL) (hstack : st0 = As.reverse ++ .ref b :: rest) (hW : (rest.map fun v => v.category).sum ≤ 8) (hdg : decode cc pc = .ok (.invokevirtual 160, 3)) (hf : cells + mc ≤ R.cells ∧ slots + ms ≤ R.slots) : va_Run p l e R s m args below meth c H locs cells slots mc ms (F0 m pc ls st0) rest (Qc (Value.ref b :: As).toArray) free :=
  gw_rV (C := R_X) hF hT hM wm_3_72 wm_3_74 ws_X_tellLeftRows wm_1_1 wm_3_75 (by decide +kernel) hR hrc hrs hK hN hP hD (ci := 2) rfl rfl he hn hsize hstack hW hdg hf
theorem gc_X_238 (hF : CallFix p m c cc nL s args Ts R_X) (hT : ∀ w ∈ wG, w ∈ Ts) (hM : Met l y_X_termAt w_X_termAt rm (gw_Pc D classes tys As ws H.size) Qc mc ms free) (hR : rm.frames + 1 ≤ R.frames ∧ 8 + (2 + 11) + rm.locals ≤ R.locals) (hrc : rm.cells = mc) (hrs : rm.slots = ms) (hK : va_K D classes tys s) (hN : gN s) (hP : va_P D classes ws H) (hD : va_D A ws) (hn : As.length = 1) (hsize : ls.size = nL) (hstack : st0 = As.reverse ++ rest) (hW : (rest.map fun v => v.category).sum ≤ 8) (hdg : decode cc pc = .ok (.invokestatic 238, 3)) (hf : cells + mc ≤ R.cells ∧ slots + ms ≤ R.slots) : va_Run p l e R s m args below meth c H locs cells slots mc ms (F0 m pc ls st0) rest (Qc As.toArray) free :=
  gw_rS hF hT hM wm_3_76 wm_2_208 wm_1_1 wm_2_209 (by decide +kernel) hR hrc hrs hK hN hP hD hn hsize hstack hW hdg hf
theorem gc_L_77 (hF : CallFix p m c cc nL s args Ts R_L) (hT : ∀ w ∈ wG, w ∈ Ts) (hM : Met l y_X_needs w_X_needs rm (gw_Pc D classes tys (.ref b :: As) ws H.size) Qc mc ms free) (hR : rm.frames + 1 ≤ R.frames ∧ 8 + (3 + 11) + rm.locals ≤ R.locals) (hrc : rm.cells = mc) (hrs : rm.slots = ms) (hK : va_K D classes tys s) (hN : gN s) (hP : va_P D classes ws H) (hD : va_D A ws) (he : ws[q0]? = some (b, .inr (2, fs))) (hn : As.length = 2) (hsize : ls.size = nL) (hstack : st0 = As.reverse ++ .ref b :: rest) (hW : (rest.map fun v => v.category).sum ≤ 8) (hdg : decode cc pc = .ok (.invokevirtual 77, 3)) (hf : cells + mc ≤ R.cells ∧ slots + ms ≤ R.slots) : va_Run p l e R s m args below meth c H locs cells slots mc ms (F0 m pc ls st0) rest (Qc (Value.ref b :: As).toArray) free :=
  gw_rV (C := R_X) hF hT hM wm_3_80 wm_3_81 wm_3_82 wm_1_1 wm_3_83 (by decide +kernel) hR hrc hrs hK hN hP hD (ci := 2) rfl rfl he hn hsize hstack hW hdg hf
theorem gc_L_81 (hF : CallFix p m c cc nL s args Ts R_L) (hT : ∀ w ∈ wG, w ∈ Ts) (hM : Met l y_X_fits w_X_fits rm (gw_Pc D classes tys (.ref b :: As) ws H.size) Qc mc ms free) (hR : rm.frames + 1 ≤ R.frames ∧ 8 + (6 + 11) + rm.locals ≤ R.locals) (hrc : rm.cells = mc) (hrs : rm.slots = ms) (hK : va_K D classes tys s) (hN : gN s) (hP : va_P D classes ws H) (hD : va_D A ws) (he : ws[q0]? = some (b, .inr (2, fs))) (hn : As.length = 3) (hsize : ls.size = nL) (hstack : st0 = As.reverse ++ .ref b :: rest) (hW : (rest.map fun v => v.category).sum ≤ 8) (hdg : decode cc pc = .ok (.invokevirtual 81, 3)) (hf : cells + mc ≤ R.cells ∧ slots + ms ≤ R.slots) : va_Run p l e R s m args below meth c H locs cells slots mc ms (F0 m pc ls st0) rest (Qc (Value.ref b :: As).toArray) free :=
  gw_rV (C := R_X) hF hT hM wm_3_88 wm_3_89 wm_3_90 wm_1_1 wm_3_91 (by decide +kernel) hR hrc hrs hK hN hP hD (ci := 2) rfl rfl he hn hsize hstack hW hdg hf
theorem gc_L_85 (hF : CallFix p m c cc nL s args Ts R_L) (hT : ∀ w ∈ wG, w ∈ Ts) (hM : Met l y_X_array w_X_array rm (gw_Pc D classes tys (.ref b :: As) ws H.size) Qc mc ms free) (hR : rm.frames + 1 ≤ R.frames ∧ 8 + (5 + 11) + rm.locals ≤ R.locals) (hrc : rm.cells = mc) (hrs : rm.slots = ms) (hK : va_K D classes tys s) (hN : gN s) (hP : va_P D classes ws H) (hD : va_D A ws) (he : ws[q0]? = some (b, .inr (2, fs))) (hn : As.length = 3) (hsize : ls.size = nL) (hstack : st0 = As.reverse ++ .ref b :: rest) (hW : (rest.map fun v => v.category).sum ≤ 8) (hdg : decode cc pc = .ok (.invokevirtual 85, 3)) (hf : cells + mc ≤ R.cells ∧ slots + ms ≤ R.slots) : va_Run p l e R s m args below meth c H locs cells slots mc ms (F0 m pc ls st0) rest (Qc (Value.ref b :: As).toArray) free :=
  gw_rV (C := R_X) hF hT hM wm_3_96 wm_3_97 wm_3_98 wm_1_1 wm_3_99 (by decide +kernel) hR hrc hrs hK hN hP hD (ci := 2) rfl rfl he hn hsize hstack hW hdg hf
theorem gc_X_180 (hF : CallFix p m c cc nL s args Ts R_X) (hT : ∀ w ∈ wG, w ∈ Ts) (hM : Met l y_T_lowerTo w_T_lowerTo rm (gw_Pc D classes tys (.ref b :: As) ws H.size) Qc mc ms free) (hR : rm.frames + 1 ≤ R.frames ∧ 8 + (5 + 11) + rm.locals ≤ R.locals) (hrc : rm.cells = mc) (hrs : rm.slots = ms) (hK : va_K D classes tys s) (hN : gN s) (hP : va_P D classes ws H) (hD : va_D A ws) (he : ws[q0]? = some (b, .inr (0, fs))) (hn : As.length = 3) (hsize : ls.size = nL) (hstack : st0 = As.reverse ++ .ref b :: rest) (hW : (rest.map fun v => v.category).sum ≤ 8) (hdg : decode cc pc = .ok (.invokevirtual 180, 3)) (hf : cells + mc ≤ R.cells ∧ slots + ms ≤ R.slots) : va_Run p l e R s m args below meth c H locs cells slots mc ms (F0 m pc ls st0) rest (Qc (Value.ref b :: As).toArray) free :=
  gw_rV (C := R_T) hF hT hM wm_3_101 wm_2_14 wm_2_15 wm_1_4 wm_2_16 (by decide +kernel) hR hrc hrs hK hN hP hD (ci := 0) rfl rfl he hn hsize hstack hW hdg hf
theorem gc_L_88 (hF : CallFix p m c cc nL s args Ts R_L) (hT : ∀ w ∈ wG, w ∈ Ts) (hM : Met l y_X_told w_X_told rm (gw_Pc D classes tys (.ref b :: As) ws H.size) Qc mc ms free) (hR : rm.frames + 1 ≤ R.frames ∧ 8 + (2 + 11) + rm.locals ≤ R.locals) (hrc : rm.cells = mc) (hrs : rm.slots = ms) (hK : va_K D classes tys s) (hN : gN s) (hP : va_P D classes ws H) (hD : va_D A ws) (he : ws[q0]? = some (b, .inr (2, fs))) (hn : As.length = 1) (hsize : ls.size = nL) (hstack : st0 = As.reverse ++ .ref b :: rest) (hW : (rest.map fun v => v.category).sum ≤ 8) (hdg : decode cc pc = .ok (.invokevirtual 88, 3)) (hf : cells + mc ≤ R.cells ∧ slots + ms ≤ R.slots) : va_Run p l e R s m args below meth c H locs cells slots mc ms (F0 m pc ls st0) rest (Qc (Value.ref b :: As).toArray) free :=
  gw_rV (C := R_X) hF hT hM wm_3_105 wm_3_106 wm_3_107 wm_1_1 wm_3_108 (by decide +kernel) hR hrc hrs hK hN hP hD (ci := 2) rfl rfl he hn hsize hstack hW hdg hf
theorem gc_X_189 (hF : CallFix p m c cc nL s args Ts R_X) (hT : ∀ w ∈ wG, w ∈ Ts) (hM : Met l y_X_countEmpty w_X_countEmpty rm (gw_Pc D classes tys (.ref b :: As) ws H.size) Qc mc ms free) (hR : rm.frames + 1 ≤ R.frames ∧ 8 + (3 + 11) + rm.locals ≤ R.locals) (hrc : rm.cells = mc) (hrs : rm.slots = ms) (hK : va_K D classes tys s) (hN : gN s) (hP : va_P D classes ws H) (hD : va_D A ws) (he : ws[q0]? = some (b, .inr (2, fs))) (hn : As.length = 0) (hsize : ls.size = nL) (hstack : st0 = As.reverse ++ .ref b :: rest) (hW : (rest.map fun v => v.category).sum ≤ 8) (hdg : decode cc pc = .ok (.invokevirtual 189, 3)) (hf : cells + mc ≤ R.cells ∧ slots + ms ≤ R.slots) : va_Run p l e R s m args below meth c H locs cells slots mc ms (F0 m pc ls st0) rest (Qc (Value.ref b :: As).toArray) free :=
  gw_rV (C := R_X) hF hT hM wm_3_110 wm_3_112 ws_X_countEmpty wm_1_1 wm_3_113 (by decide +kernel) hR hrc hrs hK hN hP hD (ci := 2) rfl rfl he hn hsize hstack hW hdg hf
theorem gc_X_193 (hF : CallFix p m c cc nL s args Ts R_X) (hT : ∀ w ∈ wG, w ∈ Ts) (hM : Met l y_T_countRows w_T_countRows rm (gw_Pc D classes tys (.ref b :: As) ws H.size) Qc mc ms free) (hR : rm.frames + 1 ≤ R.frames ∧ 8 + (4 + 11) + rm.locals ≤ R.locals) (hrc : rm.cells = mc) (hrs : rm.slots = ms) (hK : va_K D classes tys s) (hN : gN s) (hP : va_P D classes ws H) (hD : va_D A ws) (he : ws[q0]? = some (b, .inr (0, fs))) (hn : As.length = 0) (hsize : ls.size = nL) (hstack : st0 = As.reverse ++ .ref b :: rest) (hW : (rest.map fun v => v.category).sum ≤ 8) (hdg : decode cc pc = .ok (.invokevirtual 193, 3)) (hf : cells + mc ≤ R.cells ∧ slots + ms ≤ R.slots) : va_Run p l e R s m args below meth c H locs cells slots mc ms (F0 m pc ls st0) rest (Qc (Value.ref b :: As).toArray) free :=
  gw_rV (C := R_T) hF hT hM wm_3_114 wm_3_115 wm_3_116 wm_1_4 wm_3_117 (by decide +kernel) hR hrc hrs hK hN hP hD (ci := 0) rfl rfl he hn hsize hstack hW hdg hf
theorem gc_L_101 (hF : CallFix p m c cc nL s args Ts R_L) (hT : ∀ w ∈ wG, w ∈ Ts) (hM : Met l y_M_init w_M_init rm (gw_Pc D classes tys (.ref b :: As) ws H.size) Qc mc ms free) (hR : rm.frames + 1 ≤ R.frames ∧ 8 + (3 + 11) + rm.locals ≤ R.locals) (hrc : rm.cells = mc) (hrs : rm.slots = ms) (hK : va_K D classes tys s) (hN : gN s) (hP : va_P D classes ws H) (hD : va_D A ws) (hn : As.length = 1) (hsize : ls.size = nL) (hstack : st0 = As.reverse ++ .ref b :: rest) (hW : (rest.map fun v => v.category).sum ≤ 8) (hdg : decode cc pc = .ok (.invokespecial 101, 3)) (hf : cells + mc ≤ R.cells ∧ slots + ms ≤ R.slots) : va_Run p l e R s m args below meth c H locs cells slots mc ms (F0 m pc ls st0) rest (Qc (Value.ref b :: As).toArray) free :=
  gw_rI hF hT hM wm_3_120 wm_3_121 wm_1_6 wm_3_122 rfl (by decide +kernel) hR hrc hrs hK hN hP hD hn hsize hstack hW hdg hf
theorem gc_L_106 (hF : CallFix p m c cc nL s args Ts R_L) (hT : ∀ w ∈ wG, w ∈ Ts) (hM : Met l y_M_thrown w_M_thrown rm (gw_Pc D classes tys (.ref b :: As) ws H.size) Qc mc ms free) (hR : rm.frames + 1 ≤ R.frames ∧ 8 + (1 + 11) + rm.locals ≤ R.locals) (hrc : rm.cells = mc) (hrs : rm.slots = ms) (hK : va_K D classes tys s) (hN : gN s) (hP : va_P D classes ws H) (hD : va_D A ws) (he : ws[q0]? = some (b, .inr (3, fs))) (hn : As.length = 0) (hsize : ls.size = nL) (hstack : st0 = As.reverse ++ .ref b :: rest) (hW : (rest.map fun v => v.category).sum ≤ 8) (hdg : decode cc pc = .ok (.invokevirtual 106, 3)) (hf : cells + mc ≤ R.cells ∧ slots + ms ≤ R.slots) : va_Run p l e R s m args below meth c H locs cells slots mc ms (F0 m pc ls st0) rest (Qc (Value.ref b :: As).toArray) free :=
  gw_rV (C := R_M) hF hT hM wm_3_167 wm_3_168 wm_3_169 wm_1_6 wm_3_170 (by decide +kernel) hR hrc hrs hK hN hP hD (ci := 3) rfl rfl he hn hsize hstack hW hdg hf
theorem gc_L_105 (hF : CallFix p m c cc nL s args Ts R_L) (hT : ∀ w ∈ wG, w ∈ Ts) (hM : Met l y_M_all w_M_all rm (gw_Pc D classes tys (.ref b :: As) ws H.size) Qc mc ms free) (hR : rm.frames + 1 ≤ R.frames ∧ 8 + (2 + 11) + rm.locals ≤ R.locals) (hrc : rm.cells = mc) (hrs : rm.slots = ms) (hK : va_K D classes tys s) (hN : gN s) (hP : va_P D classes ws H) (hD : va_D A ws) (he : ws[q0]? = some (b, .inr (3, fs))) (hn : As.length = 1) (hsize : ls.size = nL) (hstack : st0 = As.reverse ++ .ref b :: rest) (hW : (rest.map fun v => v.category).sum ≤ 8) (hdg : decode cc pc = .ok (.invokevirtual 105, 3)) (hf : cells + mc ≤ R.cells ∧ slots + ms ≤ R.slots) : va_Run p l e R s m args below meth c H locs cells slots mc ms (F0 m pc ls st0) rest (Qc (Value.ref b :: As).toArray) free :=
  gw_rV (C := R_M) hF hT hM wm_3_171 wm_3_172 wm_3_173 wm_1_6 wm_3_174 (by decide +kernel) hR hrc hrs hK hN hP hD (ci := 3) rfl rfl he hn hsize hstack hW hdg hf
theorem gc_M_83 (hF : CallFix p m c cc nL s args Ts R_M) (hT : ∀ w ∈ wG, w ∈ Ts) (hM : Met l y_M_isShape w_M_isShape rm (gw_Pc D classes tys (.ref b :: As) ws H.size) Qc mc ms free) (hR : rm.frames + 1 ≤ R.frames ∧ 8 + (2 + 11) + rm.locals ≤ R.locals) (hrc : rm.cells = mc) (hrs : rm.slots = ms) (hK : va_K D classes tys s) (hN : gN s) (hP : va_P D classes ws H) (hD : va_D A ws) (he : ws[q0]? = some (b, .inr (3, fs))) (hn : As.length = 1) (hsize : ls.size = nL) (hstack : st0 = As.reverse ++ .ref b :: rest) (hW : (rest.map fun v => v.category).sum ≤ 8) (hdg : decode cc pc = .ok (.invokevirtual 83, 3)) (hf : cells + mc ≤ R.cells ∧ slots + ms ≤ R.slots) : va_Run p l e R s m args below meth c H locs cells slots mc ms (F0 m pc ls st0) rest (Qc (Value.ref b :: As).toArray) free :=
  gw_rV (C := R_M) hF hT hM wm_3_175 wm_3_177 ws_M_isShape wm_1_6 wm_3_178 (by decide +kernel) hR hrc hrs hK hN hP hD (ci := 3) rfl rfl he hn hsize hstack hW hdg hf
theorem gc_M_73 (hF : CallFix p m c cc nL s args Ts R_M) (hT : ∀ w ∈ wG, w ∈ Ts) (hM : Met l y_M_none w_M_none rm (gw_Pc D classes tys (.ref b :: As) ws H.size) Qc mc ms free) (hR : rm.frames + 1 ≤ R.frames ∧ 8 + (3 + 11) + rm.locals ≤ R.locals) (hrc : rm.cells = mc) (hrs : rm.slots = ms) (hK : va_K D classes tys s) (hN : gN s) (hP : va_P D classes ws H) (hD : va_D A ws) (he : ws[q0]? = some (b, .inr (3, fs))) (hn : As.length = 1) (hsize : ls.size = nL) (hstack : st0 = As.reverse ++ .ref b :: rest) (hW : (rest.map fun v => v.category).sum ≤ 8) (hdg : decode cc pc = .ok (.invokevirtual 73, 3)) (hf : cells + mc ≤ R.cells ∧ slots + ms ≤ R.slots) : va_Run p l e R s m args below meth c H locs cells slots mc ms (F0 m pc ls st0) rest (Qc (Value.ref b :: As).toArray) free :=
  gw_rV (C := R_M) hF hT hM wm_3_179 wm_3_181 ws_M_none wm_1_6 wm_3_182 (by decide +kernel) hR hrc hrs hK hN hP hD (ci := 3) rfl rfl he hn hsize hstack hW hdg hf
theorem gc_L_115 (hF : CallFix p m c cc nL s args Ts R_L) (hT : ∀ w ∈ wG, w ∈ Ts) (hM : Met l y_M_row w_M_row rm (gw_Pc D classes tys (.ref b :: As) ws H.size) Qc mc ms free) (hR : rm.frames + 1 ≤ R.frames ∧ 8 + (12 + 11) + rm.locals ≤ R.locals) (hrc : rm.cells = mc) (hrs : rm.slots = ms) (hK : va_K D classes tys s) (hN : gN s) (hP : va_P D classes ws H) (hD : va_D A ws) (he : ws[q0]? = some (b, .inr (3, fs))) (hn : As.length = 4) (hsize : ls.size = nL) (hstack : st0 = As.reverse ++ .ref b :: rest) (hW : (rest.map fun v => v.category).sum ≤ 8) (hdg : decode cc pc = .ok (.invokevirtual 115, 3)) (hf : cells + mc ≤ R.cells ∧ slots + ms ≤ R.slots) : va_Run p l e R s m args below meth c H locs cells slots mc ms (F0 m pc ls st0) rest (Qc (Value.ref b :: As).toArray) free :=
  gw_rV (C := R_M) hF hT hM wm_3_183 wm_3_184 wm_3_185 wm_1_6 wm_3_186 (by decide +kernel) hR hrc hrs hK hN hP hD (ci := 3) rfl rfl he hn hsize hstack hW hdg hf
theorem gc_M_91 (hF : CallFix p m c cc nL s args Ts R_M) (hT : ∀ w ∈ wG, w ∈ Ts) (hM : Met l y_M_isTerm w_M_isTerm rm (gw_Pc D classes tys (.ref b :: As) ws H.size) Qc mc ms free) (hR : rm.frames + 1 ≤ R.frames ∧ 8 + (2 + 11) + rm.locals ≤ R.locals) (hrc : rm.cells = mc) (hrs : rm.slots = ms) (hK : va_K D classes tys s) (hN : gN s) (hP : va_P D classes ws H) (hD : va_D A ws) (he : ws[q0]? = some (b, .inr (3, fs))) (hn : As.length = 1) (hsize : ls.size = nL) (hstack : st0 = As.reverse ++ .ref b :: rest) (hW : (rest.map fun v => v.category).sum ≤ 8) (hdg : decode cc pc = .ok (.invokevirtual 91, 3)) (hf : cells + mc ≤ R.cells ∧ slots + ms ≤ R.slots) : va_Run p l e R s m args below meth c H locs cells slots mc ms (F0 m pc ls st0) rest (Qc (Value.ref b :: As).toArray) free :=
  gw_rV (C := R_M) hF hT hM wm_3_187 wm_3_189 ws_M_isTerm wm_1_6 wm_3_190 (by decide +kernel) hR hrc hrs hK hN hP hD (ci := 3) rfl rfl he hn hsize hstack hW hdg hf
theorem gc_M_94 (hF : CallFix p m c cc nL s args Ts R_M) (hT : ∀ w ∈ wG, w ∈ Ts) (hM : Met l y_M_isSmall w_M_isSmall rm (gw_Pc D classes tys As ws H.size) Qc mc ms free) (hR : rm.frames + 1 ≤ R.frames ∧ 8 + (2 + 11) + rm.locals ≤ R.locals) (hrc : rm.cells = mc) (hrs : rm.slots = ms) (hK : va_K D classes tys s) (hN : gN s) (hP : va_P D classes ws H) (hD : va_D A ws) (hn : As.length = 1) (hsize : ls.size = nL) (hstack : st0 = As.reverse ++ rest) (hW : (rest.map fun v => v.category).sum ≤ 8) (hdg : decode cc pc = .ok (.invokestatic 94, 3)) (hf : cells + mc ≤ R.cells ∧ slots + ms ≤ R.slots) : va_Run p l e R s m args below meth c H locs cells slots mc ms (F0 m pc ls st0) rest (Qc As.toArray) free :=
  gw_rS hF hT hM wm_3_191 wm_3_192 wm_1_6 wm_3_193 (by decide +kernel) hR hrc hrs hK hN hP hD hn hsize hstack hW hdg hf
theorem gc_M_80 (hF : CallFix p m c cc nL s args Ts R_M) (hT : ∀ w ∈ wG, w ∈ Ts) (hM : Met l y_M_at w_M_at rm (gw_Pc D classes tys As ws H.size) Qc mc ms free) (hR : rm.frames + 1 ≤ R.frames ∧ 8 + (1 + 11) + rm.locals ≤ R.locals) (hrc : rm.cells = mc) (hrs : rm.slots = ms) (hK : va_K D classes tys s) (hN : gN s) (hP : va_P D classes ws H) (hD : va_D A ws) (hn : As.length = 1) (hsize : ls.size = nL) (hstack : st0 = As.reverse ++ rest) (hW : (rest.map fun v => v.category).sum ≤ 8) (hdg : decode cc pc = .ok (.invokestatic 80, 3)) (hf : cells + mc ≤ R.cells ∧ slots + ms ≤ R.slots) : va_Run p l e R s m args below meth c H locs cells slots mc ms (F0 m pc ls st0) rest (Qc As.toArray) free :=
  gw_rS hF hT hM wm_3_196 wm_3_197 wm_1_6 wm_3_198 (by decide +kernel) hR hrc hrs hK hN hP hD hn hsize hstack hW hdg hf
theorem gc_M_61 (hF : CallFix p m c cc nL s args Ts R_M) (hT : ∀ w ∈ wG, w ∈ Ts) (hM : Met l y_M_half w_M_half rm (gw_Pc D classes tys As ws H.size) Qc mc ms free) (hR : rm.frames + 1 ≤ R.frames ∧ 8 + (2 + 11) + rm.locals ≤ R.locals) (hrc : rm.cells = mc) (hrs : rm.slots = ms) (hK : va_K D classes tys s) (hN : gN s) (hP : va_P D classes ws H) (hD : va_D A ws) (hn : As.length = 1) (hsize : ls.size = nL) (hstack : st0 = As.reverse ++ rest) (hW : (rest.map fun v => v.category).sum ≤ 8) (hdg : decode cc pc = .ok (.invokestatic 61, 3)) (hf : cells + mc ≤ R.cells ∧ slots + ms ≤ R.slots) : va_Run p l e R s m args below meth c H locs cells slots mc ms (F0 m pc ls st0) rest (Qc As.toArray) free :=
  gw_rS hF hT hM wm_3_199 wm_3_200 wm_1_6 wm_3_201 (by decide +kernel) hR hrc hrs hK hN hP hD hn hsize hstack hW hdg hf
theorem gc_M_98 (hF : CallFix p m c cc nL s args Ts R_M) (hT : ∀ w ∈ wG, w ∈ Ts) (hM : Met l y_M_closeShape w_M_closeShape rm (gw_Pc D classes tys (.ref b :: As) ws H.size) Qc mc ms free) (hR : rm.frames + 1 ≤ R.frames ∧ 8 + (2 + 11) + rm.locals ≤ R.locals) (hrc : rm.cells = mc) (hrs : rm.slots = ms) (hK : va_K D classes tys s) (hN : gN s) (hP : va_P D classes ws H) (hD : va_D A ws) (he : ws[q0]? = some (b, .inr (3, fs))) (hn : As.length = 1) (hsize : ls.size = nL) (hstack : st0 = As.reverse ++ .ref b :: rest) (hW : (rest.map fun v => v.category).sum ≤ 8) (hdg : decode cc pc = .ok (.invokevirtual 98, 3)) (hf : cells + mc ≤ R.cells ∧ slots + ms ≤ R.slots) : va_Run p l e R s m args below meth c H locs cells slots mc ms (F0 m pc ls st0) rest (Qc (Value.ref b :: As).toArray) free :=
  gw_rV (C := R_M) hF hT hM wm_3_203 wm_3_205 ws_M_closeShape wm_1_6 wm_3_206 (by decide +kernel) hR hrc hrs hK hN hP hD (ci := 3) rfl rfl he hn hsize hstack hW hdg hf
theorem gc_M_77 (hF : CallFix p m c cc nL s args Ts R_M) (hT : ∀ w ∈ wG, w ∈ Ts) (hM : Met l y_M_loadRows w_M_loadRows rm (gw_Pc D classes tys (.ref b :: As) ws H.size) Qc mc ms free) (hR : rm.frames + 1 ≤ R.frames ∧ 8 + (3 + 11) + rm.locals ≤ R.locals) (hrc : rm.cells = mc) (hrs : rm.slots = ms) (hK : va_K D classes tys s) (hN : gN s) (hP : va_P D classes ws H) (hD : va_D A ws) (he : ws[q0]? = some (b, .inr (3, fs))) (hn : As.length = 1) (hsize : ls.size = nL) (hstack : st0 = As.reverse ++ .ref b :: rest) (hW : (rest.map fun v => v.category).sum ≤ 8) (hdg : decode cc pc = .ok (.invokevirtual 77, 3)) (hf : cells + mc ≤ R.cells ∧ slots + ms ≤ R.slots) : va_Run p l e R s m args below meth c H locs cells slots mc ms (F0 m pc ls st0) rest (Qc (Value.ref b :: As).toArray) free :=
  gw_rV (C := R_M) hF hT hM wm_3_207 wm_3_209 ws_M_loadRows wm_1_6 wm_3_210 (by decide +kernel) hR hrc hrs hK hN hP hD (ci := 3) rfl rfl he hn hsize hstack hW hdg hf
theorem gc_M_69 (hF : CallFix p m c cc nL s args Ts R_M) (hT : ∀ w ∈ wG, w ∈ Ts) (hM : Met l y_M_close w_M_close rm (gw_Pc D classes tys (.ref b :: As) ws H.size) Qc mc ms free) (hR : rm.frames + 1 ≤ R.frames ∧ 8 + (8 + 11) + rm.locals ≤ R.locals) (hrc : rm.cells = mc) (hrs : rm.slots = ms) (hK : va_K D classes tys s) (hN : gN s) (hP : va_P D classes ws H) (hD : va_D A ws) (he : ws[q0]? = some (b, .inr (3, fs))) (hn : As.length = 0) (hsize : ls.size = nL) (hstack : st0 = As.reverse ++ .ref b :: rest) (hW : (rest.map fun v => v.category).sum ≤ 8) (hdg : decode cc pc = .ok (.invokevirtual 69, 3)) (hf : cells + mc ≤ R.cells ∧ slots + ms ≤ R.slots) : va_Run p l e R s m args below meth c H locs cells slots mc ms (F0 m pc ls st0) rest (Qc (Value.ref b :: As).toArray) free :=
  gw_rV (C := R_M) hF hT hM wm_3_211 wm_3_213 ws_M_close wm_1_6 wm_3_214 (by decide +kernel) hR hrc hrs hK hN hP hD (ci := 3) rfl rfl he hn hsize hstack hW hdg hf
theorem gc_M_53 (hF : CallFix p m c cc nL s args Ts R_M) (hT : ∀ w ∈ wG, w ∈ Ts) (hM : Met l y_M_opposite w_M_opposite rm (gw_Pc D classes tys As ws H.size) Qc mc ms free) (hR : rm.frames + 1 ≤ R.frames ∧ 8 + (1 + 11) + rm.locals ≤ R.locals) (hrc : rm.cells = mc) (hrs : rm.slots = ms) (hK : va_K D classes tys s) (hN : gN s) (hP : va_P D classes ws H) (hD : va_D A ws) (hn : As.length = 1) (hsize : ls.size = nL) (hstack : st0 = As.reverse ++ rest) (hW : (rest.map fun v => v.category).sum ≤ 8) (hdg : decode cc pc = .ok (.invokestatic 53, 3)) (hf : cells + mc ≤ R.cells ∧ slots + ms ≤ R.slots) : va_Run p l e R s m args below meth c H locs cells slots mc ms (F0 m pc ls st0) rest (Qc As.toArray) free :=
  gw_rS hF hT hM wm_3_215 wm_3_216 wm_1_6 wm_3_217 (by decide +kernel) hR hrc hrs hK hN hP hD hn hsize hstack hW hdg hf
theorem gc_M_57 (hF : CallFix p m c cc nL s args Ts R_M) (hT : ∀ w ∈ wG, w ∈ Ts) (hM : Met l y_M_sum w_M_sum rm (gw_Pc D classes tys As ws H.size) Qc mc ms free) (hR : rm.frames + 1 ≤ R.frames ∧ 8 + (4 + 11) + rm.locals ≤ R.locals) (hrc : rm.cells = mc) (hrs : rm.slots = ms) (hK : va_K D classes tys s) (hN : gN s) (hP : va_P D classes ws H) (hD : va_D A ws) (hn : As.length = 2) (hsize : ls.size = nL) (hstack : st0 = As.reverse ++ rest) (hW : (rest.map fun v => v.category).sum ≤ 8) (hdg : decode cc pc = .ok (.invokestatic 57, 3)) (hf : cells + mc ≤ R.cells ∧ slots + ms ≤ R.slots) : va_Run p l e R s m args below meth c H locs cells slots mc ms (F0 m pc ls st0) rest (Qc As.toArray) free :=
  gw_rS hF hT hM wm_3_218 wm_3_219 wm_1_6 wm_3_220 (by decide +kernel) hR hrc hrs hK hN hP hD hn hsize hstack hW hdg hf
theorem gc_M_101 (hF : CallFix p m c cc nL s args Ts R_M) (hT : ∀ w ∈ wG, w ∈ Ts) (hM : Met l y_M_isFar w_M_isFar rm (gw_Pc D classes tys (.ref b :: As) ws H.size) Qc mc ms free) (hR : rm.frames + 1 ≤ R.frames ∧ 8 + (7 + 11) + rm.locals ≤ R.locals) (hrc : rm.cells = mc) (hrs : rm.slots = ms) (hK : va_K D classes tys s) (hN : gN s) (hP : va_P D classes ws H) (hD : va_D A ws) (he : ws[q0]? = some (b, .inr (3, fs))) (hn : As.length = 0) (hsize : ls.size = nL) (hstack : st0 = As.reverse ++ .ref b :: rest) (hW : (rest.map fun v => v.category).sum ≤ 8) (hdg : decode cc pc = .ok (.invokevirtual 101, 3)) (hf : cells + mc ≤ R.cells ∧ slots + ms ≤ R.slots) : va_Run p l e R s m args below meth c H locs cells slots mc ms (F0 m pc ls st0) rest (Qc (Value.ref b :: As).toArray) free :=
  gw_rV (C := R_M) hF hT hM wm_3_221 wm_3_223 ws_M_isFar wm_1_6 wm_3_224 (by decide +kernel) hR hrc hrs hK hN hP hD (ci := 3) rfl rfl he hn hsize hstack hW hdg hf
theorem gc_L_119 (hF : CallFix p m c cc nL s args Ts R_L) (hT : ∀ w ∈ wG, w ∈ Ts) (hM : Met l y_M_bound w_M_bound rm (gw_Pc D classes tys (.ref b :: As) ws H.size) Qc mc ms free) (hR : rm.frames + 1 ≤ R.frames ∧ 8 + (4 + 11) + rm.locals ≤ R.locals) (hrc : rm.cells = mc) (hrs : rm.slots = ms) (hK : va_K D classes tys s) (hN : gN s) (hP : va_P D classes ws H) (hD : va_D A ws) (he : ws[q0]? = some (b, .inr (3, fs))) (hn : As.length = 3) (hsize : ls.size = nL) (hstack : st0 = As.reverse ++ .ref b :: rest) (hW : (rest.map fun v => v.category).sum ≤ 8) (hdg : decode cc pc = .ok (.invokevirtual 119, 3)) (hf : cells + mc ≤ R.cells ∧ slots + ms ≤ R.slots) : va_Run p l e R s m args below meth c H locs cells slots mc ms (F0 m pc ls st0) rest (Qc (Value.ref b :: As).toArray) free :=
  gw_rV (C := R_M) hF hT hM wm_3_227 wm_3_228 wm_3_229 wm_1_6 wm_3_230 (by decide +kernel) hR hrc hrs hK hN hP hD (ci := 3) rfl rfl he hn hsize hstack hW hdg hf
theorem gc_M_104 (hF : CallFix p m c cc nL s args Ts R_M) (hT : ∀ w ∈ wG, w ∈ Ts) (hM : Met l y_M_boundOf w_M_boundOf rm (gw_Pc D classes tys (.ref b :: As) ws H.size) Qc mc ms free) (hR : rm.frames + 1 ≤ R.frames ∧ 8 + (5 + 11) + rm.locals ≤ R.locals) (hrc : rm.cells = mc) (hrs : rm.slots = ms) (hK : va_K D classes tys s) (hN : gN s) (hP : va_P D classes ws H) (hD : va_D A ws) (he : ws[q0]? = some (b, .inr (3, fs))) (hn : As.length = 2) (hsize : ls.size = nL) (hstack : st0 = As.reverse ++ .ref b :: rest) (hW : (rest.map fun v => v.category).sum ≤ 8) (hdg : decode cc pc = .ok (.invokevirtual 104, 3)) (hf : cells + mc ≤ R.cells ∧ slots + ms ≤ R.slots) : va_Run p l e R s m args below meth c H locs cells slots mc ms (F0 m pc ls st0) rest (Qc (Value.ref b :: As).toArray) free :=
  gw_rV (C := R_M) hF hT hM wm_3_231 wm_3_233 ws_M_boundOf wm_1_6 wm_3_234 (by decide +kernel) hR hrc hrs hK hN hP hD (ci := 3) rfl rfl he hn hsize hstack hW hdg hf
theorem gc_L_122 (hF : CallFix p m c cc nL s args Ts R_L) (hT : ∀ w ∈ wG, w ∈ Ts) (hM : Met l y_M_kept w_M_kept rm (gw_Pc D classes tys (.ref b :: As) ws H.size) Qc mc ms free) (hR : rm.frames + 1 ≤ R.frames ∧ 8 + (4 + 11) + rm.locals ≤ R.locals) (hrc : rm.cells = mc) (hrs : rm.slots = ms) (hK : va_K D classes tys s) (hN : gN s) (hP : va_P D classes ws H) (hD : va_D A ws) (he : ws[q0]? = some (b, .inr (3, fs))) (hn : As.length = 3) (hsize : ls.size = nL) (hstack : st0 = As.reverse ++ .ref b :: rest) (hW : (rest.map fun v => v.category).sum ≤ 8) (hdg : decode cc pc = .ok (.invokevirtual 122, 3)) (hf : cells + mc ≤ R.cells ∧ slots + ms ≤ R.slots) : va_Run p l e R s m args below meth c H locs cells slots mc ms (F0 m pc ls st0) rest (Qc (Value.ref b :: As).toArray) free :=
  gw_rV (C := R_M) hF hT hM wm_3_236 wm_3_237 wm_3_238 wm_1_6 wm_3_239 (by decide +kernel) hR hrc hrs hK hN hP hD (ci := 3) rfl rfl he hn hsize hstack hW hdg hf
theorem gc_L_125 (hF : CallFix p m c cc nL s args Ts R_L) (hT : ∀ w ∈ wG, w ∈ Ts) (hM : Met l y_M_meet w_M_meet rm (gw_Pc D classes tys (.ref b :: As) ws H.size) Qc mc ms free) (hR : rm.frames + 1 ≤ R.frames ∧ 8 + (5 + 11) + rm.locals ≤ R.locals) (hrc : rm.cells = mc) (hrs : rm.slots = ms) (hK : va_K D classes tys s) (hN : gN s) (hP : va_P D classes ws H) (hD : va_D A ws) (he : ws[q0]? = some (b, .inr (3, fs))) (hn : As.length = 3) (hsize : ls.size = nL) (hstack : st0 = As.reverse ++ .ref b :: rest) (hW : (rest.map fun v => v.category).sum ≤ 8) (hdg : decode cc pc = .ok (.invokevirtual 125, 3)) (hf : cells + mc ≤ R.cells ∧ slots + ms ≤ R.slots) : va_Run p l e R s m args below meth c H locs cells slots mc ms (F0 m pc ls st0) rest (Qc (Value.ref b :: As).toArray) free :=
  gw_rV (C := R_M) hF hT hM wm_4_0 wm_4_1 wm_4_2 wm_1_6 wm_4_3 (by decide +kernel) hR hrc hrs hK hN hP hD (ci := 3) rfl rfl he hn hsize hstack hW hdg hf
theorem gc_M_110 (hF : CallFix p m c cc nL s args Ts R_M) (hT : ∀ w ∈ wG, w ∈ Ts) (hM : Met l y_M_areShapes w_M_areShapes rm (gw_Pc D classes tys (.ref b :: As) ws H.size) Qc mc ms free) (hR : rm.frames + 1 ≤ R.frames ∧ 8 + (4 + 11) + rm.locals ≤ R.locals) (hrc : rm.cells = mc) (hrs : rm.slots = ms) (hK : va_K D classes tys s) (hN : gN s) (hP : va_P D classes ws H) (hD : va_D A ws) (he : ws[q0]? = some (b, .inr (3, fs))) (hn : As.length = 3) (hsize : ls.size = nL) (hstack : st0 = As.reverse ++ .ref b :: rest) (hW : (rest.map fun v => v.category).sum ≤ 8) (hdg : decode cc pc = .ok (.invokevirtual 110, 3)) (hf : cells + mc ≤ R.cells ∧ slots + ms ≤ R.slots) : va_Run p l e R s m args below meth c H locs cells slots mc ms (F0 m pc ls st0) rest (Qc (Value.ref b :: As).toArray) free :=
  gw_rV (C := R_M) hF hT hM wm_4_4 wm_4_6 ws_M_areShapes wm_1_6 wm_4_7 (by decide +kernel) hR hrc hrs hK hN hP hD (ci := 3) rfl rfl he hn hsize hstack hW hdg hf
theorem gc_M_114 (hF : CallFix p m c cc nL s args Ts R_M) (hT : ∀ w ∈ wG, w ∈ Ts) (hM : Met l y_M_keepClosed w_M_keepClosed rm (gw_Pc D classes tys (.ref b :: As) ws H.size) Qc mc ms free) (hR : rm.frames + 1 ≤ R.frames ∧ 8 + (7 + 11) + rm.locals ≤ R.locals) (hrc : rm.cells = mc) (hrs : rm.slots = ms) (hK : va_K D classes tys s) (hN : gN s) (hP : va_P D classes ws H) (hD : va_D A ws) (he : ws[q0]? = some (b, .inr (3, fs))) (hn : As.length = 2) (hsize : ls.size = nL) (hstack : st0 = As.reverse ++ .ref b :: rest) (hW : (rest.map fun v => v.category).sum ≤ 8) (hdg : decode cc pc = .ok (.invokevirtual 114, 3)) (hf : cells + mc ≤ R.cells ∧ slots + ms ≤ R.slots) : va_Run p l e R s m args below meth c H locs cells slots mc ms (F0 m pc ls st0) rest (Qc (Value.ref b :: As).toArray) free :=
  gw_rV (C := R_M) hF hT hM wm_4_8 wm_4_10 ws_M_keepClosed wm_1_6 wm_4_11 (by decide +kernel) hR hrc hrs hK hN hP hD (ci := 3) rfl rfl he hn hsize hstack hW hdg hf
theorem gc_M_118 (hF : CallFix p m c cc nL s args Ts R_M) (hT : ∀ w ∈ wG, w ∈ Ts) (hM : Met l y_M_copyTable w_M_copyTable rm (gw_Pc D classes tys (.ref b :: As) ws H.size) Qc mc ms free) (hR : rm.frames + 1 ≤ R.frames ∧ 8 + (3 + 11) + rm.locals ≤ R.locals) (hrc : rm.cells = mc) (hrs : rm.slots = ms) (hK : va_K D classes tys s) (hN : gN s) (hP : va_P D classes ws H) (hD : va_D A ws) (he : ws[q0]? = some (b, .inr (3, fs))) (hn : As.length = 1) (hsize : ls.size = nL) (hstack : st0 = As.reverse ++ .ref b :: rest) (hW : (rest.map fun v => v.category).sum ≤ 8) (hdg : decode cc pc = .ok (.invokevirtual 118, 3)) (hf : cells + mc ≤ R.cells ∧ slots + ms ≤ R.slots) : va_Run p l e R s m args below meth c H locs cells slots mc ms (F0 m pc ls st0) rest (Qc (Value.ref b :: As).toArray) free :=
  gw_rV (C := R_M) hF hT hM wm_4_12 wm_4_14 ws_M_copyTable wm_1_6 wm_4_15 (by decide +kernel) hR hrc hrs hK hN hP hD (ci := 3) rfl rfl he hn hsize hstack hW hdg hf
theorem gc_L_128 (hF : CallFix p m c cc nL s args Ts R_L) (hT : ∀ w ∈ wG, w ∈ Ts) (hM : Met l y_M_join w_M_join rm (gw_Pc D classes tys (.ref b :: As) ws H.size) Qc mc ms free) (hR : rm.frames + 1 ≤ R.frames ∧ 8 + (7 + 11) + rm.locals ≤ R.locals) (hrc : rm.cells = mc) (hrs : rm.slots = ms) (hK : va_K D classes tys s) (hN : gN s) (hP : va_P D classes ws H) (hD : va_D A ws) (he : ws[q0]? = some (b, .inr (3, fs))) (hn : As.length = 3) (hsize : ls.size = nL) (hstack : st0 = As.reverse ++ .ref b :: rest) (hW : (rest.map fun v => v.category).sum ≤ 8) (hdg : decode cc pc = .ok (.invokevirtual 128, 3)) (hf : cells + mc ≤ R.cells ∧ slots + ms ≤ R.slots) : va_Run p l e R s m args below meth c H locs cells slots mc ms (F0 m pc ls st0) rest (Qc (Value.ref b :: As).toArray) free :=
  gw_rV (C := R_M) hF hT hM wm_4_16 wm_4_17 wm_4_18 wm_1_6 wm_4_19 (by decide +kernel) hR hrc hrs hK hN hP hD (ci := 3) rfl rfl he hn hsize hstack hW hdg hf
theorem gc_L_131 (hF : CallFix p m c cc nL s args Ts R_L) (hT : ∀ w ∈ wG, w ∈ Ts) (hM : Met l y_M_widen w_M_widen rm (gw_Pc D classes tys (.ref b :: As) ws H.size) Qc mc ms free) (hR : rm.frames + 1 ≤ R.frames ∧ 8 + (11 + 11) + rm.locals ≤ R.locals) (hrc : rm.cells = mc) (hrs : rm.slots = ms) (hK : va_K D classes tys s) (hN : gN s) (hP : va_P D classes ws H) (hD : va_D A ws) (he : ws[q0]? = some (b, .inr (3, fs))) (hn : As.length = 3) (hsize : ls.size = nL) (hstack : st0 = As.reverse ++ .ref b :: rest) (hW : (rest.map fun v => v.category).sum ≤ 8) (hdg : decode cc pc = .ok (.invokevirtual 131, 3)) (hf : cells + mc ≤ R.cells ∧ slots + ms ≤ R.slots) : va_Run p l e R s m args below meth c H locs cells slots mc ms (F0 m pc ls st0) rest (Qc (Value.ref b :: As).toArray) free :=
  gw_rV (C := R_M) hF hT hM wm_4_20 wm_4_21 wm_4_22 wm_1_6 wm_4_23 (by decide +kernel) hR hrc hrs hK hN hP hD (ci := 3) rfl rfl he hn hsize hstack hW hdg hf
theorem gc_M_122 (hF : CallFix p m c cc nL s args Ts R_M) (hT : ∀ w ∈ wG, w ∈ Ts) (hM : Met l y_M_copyRows w_M_copyRows rm (gw_Pc D classes tys (.ref b :: As) ws H.size) Qc mc ms free) (hR : rm.frames + 1 ≤ R.frames ∧ 8 + (4 + 11) + rm.locals ≤ R.locals) (hrc : rm.cells = mc) (hrs : rm.slots = ms) (hK : va_K D classes tys s) (hN : gN s) (hP : va_P D classes ws H) (hD : va_D A ws) (he : ws[q0]? = some (b, .inr (3, fs))) (hn : As.length = 2) (hsize : ls.size = nL) (hstack : st0 = As.reverse ++ .ref b :: rest) (hW : (rest.map fun v => v.category).sum ≤ 8) (hdg : decode cc pc = .ok (.invokevirtual 122, 3)) (hf : cells + mc ≤ R.cells ∧ slots + ms ≤ R.slots) : va_Run p l e R s m args below meth c H locs cells slots mc ms (F0 m pc ls st0) rest (Qc (Value.ref b :: As).toArray) free :=
  gw_rV (C := R_M) hF hT hM wm_4_24 wm_4_26 ws_M_copyRows wm_1_6 wm_4_27 (by decide +kernel) hR hrc hrs hK hN hP hD (ci := 3) rfl rfl he hn hsize hstack hW hdg hf
theorem gc_M_126 (hF : CallFix p m c cc nL s args Ts R_M) (hT : ∀ w ∈ wG, w ∈ Ts) (hM : Met l y_M_closeMade w_M_closeMade rm (gw_Pc D classes tys (.ref b :: As) ws H.size) Qc mc ms free) (hR : rm.frames + 1 ≤ R.frames ∧ 8 + (5 + 11) + rm.locals ≤ R.locals) (hrc : rm.cells = mc) (hrs : rm.slots = ms) (hK : va_K D classes tys s) (hN : gN s) (hP : va_P D classes ws H) (hD : va_D A ws) (he : ws[q0]? = some (b, .inr (3, fs))) (hn : As.length = 0) (hsize : ls.size = nL) (hstack : st0 = As.reverse ++ .ref b :: rest) (hW : (rest.map fun v => v.category).sum ≤ 8) (hdg : decode cc pc = .ok (.invokevirtual 126, 3)) (hf : cells + mc ≤ R.cells ∧ slots + ms ≤ R.slots) : va_Run p l e R s m args below meth c H locs cells slots mc ms (F0 m pc ls st0) rest (Qc (Value.ref b :: As).toArray) free :=
  gw_rV (C := R_M) hF hT hM wm_4_28 wm_4_30 ws_M_closeMade wm_1_6 wm_4_31 (by decide +kernel) hR hrc hrs hK hN hP hD (ci := 3) rfl rfl he hn hsize hstack hW hdg hf
theorem gc_M_129 (hF : CallFix p m c cc nL s args Ts R_M) (hT : ∀ w ∈ wG, w ∈ Ts) (hM : Met l y_M_keepMade w_M_keepMade rm (gw_Pc D classes tys (.ref b :: As) ws H.size) Qc mc ms free) (hR : rm.frames + 1 ≤ R.frames ∧ 8 + (4 + 11) + rm.locals ≤ R.locals) (hrc : rm.cells = mc) (hrs : rm.slots = ms) (hK : va_K D classes tys s) (hN : gN s) (hP : va_P D classes ws H) (hD : va_D A ws) (he : ws[q0]? = some (b, .inr (3, fs))) (hn : As.length = 1) (hsize : ls.size = nL) (hstack : st0 = As.reverse ++ .ref b :: rest) (hW : (rest.map fun v => v.category).sum ≤ 8) (hdg : decode cc pc = .ok (.invokevirtual 129, 3)) (hf : cells + mc ≤ R.cells ∧ slots + ms ≤ R.slots) : va_Run p l e R s m args below meth c H locs cells slots mc ms (F0 m pc ls st0) rest (Qc (Value.ref b :: As).toArray) free :=
  gw_rV (C := R_M) hF hT hM wm_4_32 wm_4_34 ws_M_keepMade wm_1_6 wm_4_35 (by decide +kernel) hR hrc hrs hK hN hP hD (ci := 3) rfl rfl he hn hsize hstack hW hdg hf
theorem gc_L_134 (hF : CallFix p m c cc nL s args Ts R_L) (hT : ∀ w ∈ wG, w ∈ Ts) (hM : Met l y_M_narrow w_M_narrow rm (gw_Pc D classes tys (.ref b :: As) ws H.size) Qc mc ms free) (hR : rm.frames + 1 ≤ R.frames ∧ 8 + (12 + 11) + rm.locals ≤ R.locals) (hrc : rm.cells = mc) (hrs : rm.slots = ms) (hK : va_K D classes tys s) (hN : gN s) (hP : va_P D classes ws H) (hD : va_D A ws) (he : ws[q0]? = some (b, .inr (3, fs))) (hn : As.length = 3) (hsize : ls.size = nL) (hstack : st0 = As.reverse ++ .ref b :: rest) (hW : (rest.map fun v => v.category).sum ≤ 8) (hdg : decode cc pc = .ok (.invokevirtual 134, 3)) (hf : cells + mc ≤ R.cells ∧ slots + ms ≤ R.slots) : va_Run p l e R s m args below meth c H locs cells slots mc ms (F0 m pc ls st0) rest (Qc (Value.ref b :: As).toArray) free :=
  gw_rV (C := R_M) hF hT hM wm_4_36 wm_4_37 wm_4_38 wm_1_6 wm_4_39 (by decide +kernel) hR hrc hrs hK hN hP hD (ci := 3) rfl rfl he hn hsize hstack hW hdg hf
theorem gc_L_138 (hF : CallFix p m c cc nL s args Ts R_L) (hT : ∀ w ∈ wG, w ∈ Ts) (hM : Met l y_M_copy w_M_copy rm (gw_Pc D classes tys (.ref b :: As) ws H.size) Qc mc ms free) (hR : rm.frames + 1 ≤ R.frames ∧ 8 + (3 + 11) + rm.locals ≤ R.locals) (hrc : rm.cells = mc) (hrs : rm.slots = ms) (hK : va_K D classes tys s) (hN : gN s) (hP : va_P D classes ws H) (hD : va_D A ws) (he : ws[q0]? = some (b, .inr (3, fs))) (hn : As.length = 2) (hsize : ls.size = nL) (hstack : st0 = As.reverse ++ .ref b :: rest) (hW : (rest.map fun v => v.category).sum ≤ 8) (hdg : decode cc pc = .ok (.invokevirtual 138, 3)) (hf : cells + mc ≤ R.cells ∧ slots + ms ≤ R.slots) : va_Run p l e R s m args below meth c H locs cells slots mc ms (F0 m pc ls st0) rest (Qc (Value.ref b :: As).toArray) free :=
  gw_rV (C := R_M) hF hT hM wm_4_40 wm_4_41 wm_4_42 wm_1_6 wm_4_43 (by decide +kernel) hR hrc hrs hK hN hP hD (ci := 3) rfl rfl he hn hsize hstack hW hdg hf
theorem gc_L_141 (hF : CallFix p m c cc nL s args Ts R_L) (hT : ∀ w ∈ wG, w ∈ Ts) (hM : Met l y_M_set w_M_set rm (gw_Pc D classes tys (.ref b :: As) ws H.size) Qc mc ms free) (hR : rm.frames + 1 ≤ R.frames ∧ 8 + (7 + 11) + rm.locals ≤ R.locals) (hrc : rm.cells = mc) (hrs : rm.slots = ms) (hK : va_K D classes tys s) (hN : gN s) (hP : va_P D classes ws H) (hD : va_D A ws) (he : ws[q0]? = some (b, .inr (3, fs))) (hn : As.length = 4) (hsize : ls.size = nL) (hstack : st0 = As.reverse ++ .ref b :: rest) (hW : (rest.map fun v => v.category).sum ≤ 8) (hdg : decode cc pc = .ok (.invokevirtual 141, 3)) (hf : cells + mc ≤ R.cells ∧ slots + ms ≤ R.slots) : va_Run p l e R s m args below meth c H locs cells slots mc ms (F0 m pc ls st0) rest (Qc (Value.ref b :: As).toArray) free :=
  gw_rV (C := R_M) hF hT hM wm_4_44 wm_4_45 wm_4_46 wm_1_6 wm_4_47 (by decide +kernel) hR hrc hrs hK hN hP hD (ci := 3) rfl rfl he hn hsize hstack hW hdg hf
theorem gc_M_132 (hF : CallFix p m c cc nL s args Ts R_M) (hT : ∀ w ∈ wG, w ∈ Ts) (hM : Met l y_M_isName w_M_isName rm (gw_Pc D classes tys (.ref b :: As) ws H.size) Qc mc ms free) (hR : rm.frames + 1 ≤ R.frames ∧ 8 + (2 + 11) + rm.locals ≤ R.locals) (hrc : rm.cells = mc) (hrs : rm.slots = ms) (hK : va_K D classes tys s) (hN : gN s) (hP : va_P D classes ws H) (hD : va_D A ws) (he : ws[q0]? = some (b, .inr (3, fs))) (hn : As.length = 1) (hsize : ls.size = nL) (hstack : st0 = As.reverse ++ .ref b :: rest) (hW : (rest.map fun v => v.category).sum ≤ 8) (hdg : decode cc pc = .ok (.invokevirtual 132, 3)) (hf : cells + mc ≤ R.cells ∧ slots + ms ≤ R.slots) : va_Run p l e R s m args below meth c H locs cells slots mc ms (F0 m pc ls st0) rest (Qc (Value.ref b :: As).toArray) free :=
  gw_rV (C := R_M) hF hT hM wm_4_48 wm_4_50 ws_M_isName wm_1_6 wm_4_51 (by decide +kernel) hR hrc hrs hK hN hP hD (ci := 3) rfl rfl he hn hsize hstack hW hdg hf
theorem gc_M_135 (hF : CallFix p m c cc nL s args Ts R_M) (hT : ∀ w ∈ wG, w ∈ Ts) (hM : Met l y_M_turn w_M_turn rm (gw_Pc D classes tys (.ref b :: As) ws H.size) Qc mc ms free) (hR : rm.frames + 1 ≤ R.frames ∧ 8 + (12 + 11) + rm.locals ≤ R.locals) (hrc : rm.cells = mc) (hrs : rm.slots = ms) (hK : va_K D classes tys s) (hN : gN s) (hP : va_P D classes ws H) (hD : va_D A ws) (he : ws[q0]? = some (b, .inr (3, fs))) (hn : As.length = 3) (hsize : ls.size = nL) (hstack : st0 = As.reverse ++ .ref b :: rest) (hW : (rest.map fun v => v.category).sum ≤ 8) (hdg : decode cc pc = .ok (.invokevirtual 135, 3)) (hf : cells + mc ≤ R.cells ∧ slots + ms ≤ R.slots) : va_Run p l e R s m args below meth c H locs cells slots mc ms (F0 m pc ls st0) rest (Qc (Value.ref b :: As).toArray) free :=
  gw_rV (C := R_M) hF hT hM wm_4_52 wm_4_54 ws_M_turn wm_1_6 wm_4_55 (by decide +kernel) hR hrc hrs hK hN hP hD (ci := 3) rfl rfl he hn hsize hstack hW hdg hf
theorem gc_M_139 (hF : CallFix p m c cc nL s args Ts R_M) (hT : ∀ w ∈ wG, w ∈ Ts) (hM : Met l y_M_drop w_M_drop rm (gw_Pc D classes tys (.ref b :: As) ws H.size) Qc mc ms free) (hR : rm.frames + 1 ≤ R.frames ∧ 8 + (4 + 11) + rm.locals ≤ R.locals) (hrc : rm.cells = mc) (hrs : rm.slots = ms) (hK : va_K D classes tys s) (hN : gN s) (hP : va_P D classes ws H) (hD : va_D A ws) (he : ws[q0]? = some (b, .inr (3, fs))) (hn : As.length = 1) (hsize : ls.size = nL) (hstack : st0 = As.reverse ++ .ref b :: rest) (hW : (rest.map fun v => v.category).sum ≤ 8) (hdg : decode cc pc = .ok (.invokevirtual 139, 3)) (hf : cells + mc ≤ R.cells ∧ slots + ms ≤ R.slots) : va_Run p l e R s m args below meth c H locs cells slots mc ms (F0 m pc ls st0) rest (Qc (Value.ref b :: As).toArray) free :=
  gw_rV (C := R_M) hF hT hM wm_4_56 wm_4_58 ws_M_drop wm_1_6 wm_4_59 (by decide +kernel) hR hrc hrs hK hN hP hD (ci := 3) rfl rfl he hn hsize hstack hW hdg hf
theorem gc_M_142 (hF : CallFix p m c cc nL s args Ts R_M) (hT : ∀ w ∈ wG, w ∈ Ts) (hM : Met l y_M_addRow w_M_addRow rm (gw_Pc D classes tys (.ref b :: As) ws H.size) Qc mc ms free) (hR : rm.frames + 1 ≤ R.frames ∧ 8 + (9 + 11) + rm.locals ≤ R.locals) (hrc : rm.cells = mc) (hrs : rm.slots = ms) (hK : va_K D classes tys s) (hN : gN s) (hP : va_P D classes ws H) (hD : va_D A ws) (he : ws[q0]? = some (b, .inr (3, fs))) (hn : As.length = 3) (hsize : ls.size = nL) (hstack : st0 = As.reverse ++ .ref b :: rest) (hW : (rest.map fun v => v.category).sum ≤ 8) (hdg : decode cc pc = .ok (.invokevirtual 142, 3)) (hf : cells + mc ≤ R.cells ∧ slots + ms ≤ R.slots) : va_Run p l e R s m args below meth c H locs cells slots mc ms (F0 m pc ls st0) rest (Qc (Value.ref b :: As).toArray) free :=
  gw_rV (C := R_M) hF hT hM wm_4_60 wm_4_62 ws_M_addRow wm_1_6 wm_4_63 (by decide +kernel) hR hrc hrs hK hN hP hD (ci := 3) rfl rfl he hn hsize hstack hW hdg hf
theorem gc_L_145 (hF : CallFix p m c cc nL s args Ts R_L) (hT : ∀ w ∈ wG, w ∈ Ts) (hM : Met l y_M_forget w_M_forget rm (gw_Pc D classes tys (.ref b :: As) ws H.size) Qc mc ms free) (hR : rm.frames + 1 ≤ R.frames ∧ 8 + (3 + 11) + rm.locals ≤ R.locals) (hrc : rm.cells = mc) (hrs : rm.slots = ms) (hK : va_K D classes tys s) (hN : gN s) (hP : va_P D classes ws H) (hD : va_D A ws) (he : ws[q0]? = some (b, .inr (3, fs))) (hn : As.length = 2) (hsize : ls.size = nL) (hstack : st0 = As.reverse ++ .ref b :: rest) (hW : (rest.map fun v => v.category).sum ≤ 8) (hdg : decode cc pc = .ok (.invokevirtual 145, 3)) (hf : cells + mc ≤ R.cells ∧ slots + ms ≤ R.slots) : va_Run p l e R s m args below meth c H locs cells slots mc ms (F0 m pc ls st0) rest (Qc (Value.ref b :: As).toArray) free :=
  gw_rV (C := R_M) hF hT hM wm_4_64 wm_4_65 wm_4_66 wm_1_6 wm_4_67 (by decide +kernel) hR hrc hrs hK hN hP hD (ci := 3) rfl rfl he hn hsize hstack hW hdg hf
theorem gc_L_148 (hF : CallFix p m c cc nL s args Ts R_L) (hT : ∀ w ∈ wG, w ∈ Ts) (hM : Met l y_M_within w_M_within rm (gw_Pc D classes tys (.ref b :: As) ws H.size) Qc mc ms free) (hR : rm.frames + 1 ≤ R.frames ∧ 8 + (10 + 11) + rm.locals ≤ R.locals) (hrc : rm.cells = mc) (hrs : rm.slots = ms) (hK : va_K D classes tys s) (hN : gN s) (hP : va_P D classes ws H) (hD : va_D A ws) (he : ws[q0]? = some (b, .inr (3, fs))) (hn : As.length = 2) (hsize : ls.size = nL) (hstack : st0 = As.reverse ++ .ref b :: rest) (hW : (rest.map fun v => v.category).sum ≤ 8) (hdg : decode cc pc = .ok (.invokevirtual 148, 3)) (hf : cells + mc ≤ R.cells ∧ slots + ms ≤ R.slots) : va_Run p l e R s m args below meth c H locs cells slots mc ms (F0 m pc ls st0) rest (Qc (Value.ref b :: As).toArray) free :=
  gw_rV (C := R_M) hF hT hM wm_4_68 wm_4_69 wm_4_70 wm_1_6 wm_4_71 (by decide +kernel) hR hrc hrs hK hN hP hD (ci := 3) rfl rfl he hn hsize hstack hW hdg hf
theorem gc_L_152 (hF : CallFix p m c cc nL s args Ts R_L) (hT : ∀ w ∈ wG, w ∈ Ts) (hM : Met l y_M_put w_M_put rm (gw_Pc D classes tys (.ref b :: As) ws H.size) Qc mc ms free) (hR : rm.frames + 1 ≤ R.frames ∧ 8 + (6 + 11) + rm.locals ≤ R.locals) (hrc : rm.cells = mc) (hrs : rm.slots = ms) (hK : va_K D classes tys s) (hN : gN s) (hP : va_P D classes ws H) (hD : va_D A ws) (he : ws[q0]? = some (b, .inr (3, fs))) (hn : As.length = 2) (hsize : ls.size = nL) (hstack : st0 = As.reverse ++ .ref b :: rest) (hW : (rest.map fun v => v.category).sum ≤ 8) (hdg : decode cc pc = .ok (.invokevirtual 152, 3)) (hf : cells + mc ≤ R.cells ∧ slots + ms ≤ R.slots) : va_Run p l e R s m args below meth c H locs cells slots mc ms (F0 m pc ls st0) rest (Qc (Value.ref b :: As).toArray) free :=
  gw_rV (C := R_M) hF hT hM wm_4_72 wm_4_73 wm_4_74 wm_1_6 wm_4_75 (by decide +kernel) hR hrc hrs hK hN hP hD (ci := 3) rfl rfl he hn hsize hstack hW hdg hf
theorem gc_L_156 (hF : CallFix p m c cc nL s args Ts R_L) (hT : ∀ w ∈ wG, w ∈ Ts) (hM : Met l y_M_point w_M_point rm (gw_Pc D classes tys (.ref b :: As) ws H.size) Qc mc ms free) (hR : rm.frames + 1 ≤ R.frames ∧ 8 + (2 + 11) + rm.locals ≤ R.locals) (hrc : rm.cells = mc) (hrs : rm.slots = ms) (hK : va_K D classes tys s) (hN : gN s) (hP : va_P D classes ws H) (hD : va_D A ws) (he : ws[q0]? = some (b, .inr (3, fs))) (hn : As.length = 1) (hsize : ls.size = nL) (hstack : st0 = As.reverse ++ .ref b :: rest) (hW : (rest.map fun v => v.category).sum ≤ 8) (hdg : decode cc pc = .ok (.invokevirtual 156, 3)) (hf : cells + mc ≤ R.cells ∧ slots + ms ≤ R.slots) : va_Run p l e R s m args below meth c H locs cells slots mc ms (F0 m pc ls st0) rest (Qc (Value.ref b :: As).toArray) free :=
  gw_rV (C := R_M) hF hT hM wm_4_76 wm_4_77 wm_4_78 wm_1_6 wm_4_79 (by decide +kernel) hR hrc hrs hK hN hP hD (ci := 3) rfl rfl he hn hsize hstack hW hdg hf
theorem gc_L_159 (hF : CallFix p m c cc nL s args Ts R_L) (hT : ∀ w ∈ wG, w ∈ Ts) (hM : Met l y_M_has w_M_has rm (gw_Pc D classes tys (.ref b :: As) ws H.size) Qc mc ms free) (hR : rm.frames + 1 ≤ R.frames ∧ 8 + (7 + 11) + rm.locals ≤ R.locals) (hrc : rm.cells = mc) (hrs : rm.slots = ms) (hK : va_K D classes tys s) (hN : gN s) (hP : va_P D classes ws H) (hD : va_D A ws) (he : ws[q0]? = some (b, .inr (3, fs))) (hn : As.length = 1) (hsize : ls.size = nL) (hstack : st0 = As.reverse ++ .ref b :: rest) (hW : (rest.map fun v => v.category).sum ≤ 8) (hdg : decode cc pc = .ok (.invokevirtual 159, 3)) (hf : cells + mc ≤ R.cells ∧ slots + ms ≤ R.slots) : va_Run p l e R s m args below meth c H locs cells slots mc ms (F0 m pc ls st0) rest (Qc (Value.ref b :: As).toArray) free :=
  gw_rV (C := R_M) hF hT hM wm_4_80 wm_4_81 wm_4_82 wm_1_6 wm_4_83 (by decide +kernel) hR hrc hrs hK hN hP hD (ci := 3) rfl rfl he hn hsize hstack hW hdg hf
theorem gc_M_146 (hF : CallFix p m c cc nL s args Ts R_M) (hT : ∀ w ∈ wG, w ∈ Ts) (hM : Met l y_M_valueAt w_M_valueAt rm (gw_Pc D classes tys (.ref b :: As) ws H.size) Qc mc ms free) (hR : rm.frames + 1 ≤ R.frames ∧ 8 + (2 + 11) + rm.locals ≤ R.locals) (hrc : rm.cells = mc) (hrs : rm.slots = ms) (hK : va_K D classes tys s) (hN : gN s) (hP : va_P D classes ws H) (hD : va_D A ws) (he : ws[q0]? = some (b, .inr (3, fs))) (hn : As.length = 1) (hsize : ls.size = nL) (hstack : st0 = As.reverse ++ .ref b :: rest) (hW : (rest.map fun v => v.category).sum ≤ 8) (hdg : decode cc pc = .ok (.invokevirtual 146, 3)) (hf : cells + mc ≤ R.cells ∧ slots + ms ≤ R.slots) : va_Run p l e R s m args below meth c H locs cells slots mc ms (F0 m pc ls st0) rest (Qc (Value.ref b :: As).toArray) free :=
  gw_rV (C := R_M) hF hT hM wm_4_84 wm_4_86 ws_M_valueAt wm_1_6 wm_4_87 (by decide +kernel) hR hrc hrs hK hN hP hD (ci := 3) rfl rfl he hn hsize hstack hW hdg hf
theorem gc_L_162 (hF : CallFix p m c cc nL s args Ts R_L) (hT : ∀ w ∈ wG, w ∈ Ts) (hM : Met l y_M_sample w_M_sample rm (gw_Pc D classes tys (.ref b :: As) ws H.size) Qc mc ms free) (hR : rm.frames + 1 ≤ R.frames ∧ 8 + (8 + 11) + rm.locals ≤ R.locals) (hrc : rm.cells = mc) (hrs : rm.slots = ms) (hK : va_K D classes tys s) (hN : gN s) (hP : va_P D classes ws H) (hD : va_D A ws) (he : ws[q0]? = some (b, .inr (3, fs))) (hn : As.length = 1) (hsize : ls.size = nL) (hstack : st0 = As.reverse ++ .ref b :: rest) (hW : (rest.map fun v => v.category).sum ≤ 8) (hdg : decode cc pc = .ok (.invokevirtual 162, 3)) (hf : cells + mc ≤ R.cells ∧ slots + ms ≤ R.slots) : va_Run p l e R s m args below meth c H locs cells slots mc ms (F0 m pc ls st0) rest (Qc (Value.ref b :: As).toArray) free :=
  gw_rV (C := R_M) hF hT hM wm_4_88 wm_4_89 wm_4_90 wm_1_6 wm_4_91 (by decide +kernel) hR hrc hrs hK hN hP hD (ci := 3) rfl rfl he hn hsize hstack hW hdg hf
theorem gc_L_165 (hF : CallFix p m c cc nL s args Ts R_L) (hT : ∀ w ∈ wG, w ∈ Ts) (hM : Met l y_M_needed w_M_needed rm (gw_Pc D classes tys (.ref b :: As) ws H.size) Qc mc ms free) (hR : rm.frames + 1 ≤ R.frames ∧ 8 + (4 + 11) + rm.locals ≤ R.locals) (hrc : rm.cells = mc) (hrs : rm.slots = ms) (hK : va_K D classes tys s) (hN : gN s) (hP : va_P D classes ws H) (hD : va_D A ws) (he : ws[q0]? = some (b, .inr (3, fs))) (hn : As.length = 1) (hsize : ls.size = nL) (hstack : st0 = As.reverse ++ .ref b :: rest) (hW : (rest.map fun v => v.category).sum ≤ 8) (hdg : decode cc pc = .ok (.invokevirtual 165, 3)) (hf : cells + mc ≤ R.cells ∧ slots + ms ≤ R.slots) : va_Run p l e R s m args below meth c H locs cells slots mc ms (F0 m pc ls st0) rest (Qc (Value.ref b :: As).toArray) free :=
  gw_rV (C := R_M) hF hT hM wm_4_92 wm_4_93 wm_4_94 wm_1_6 wm_4_95 (by decide +kernel) hR hrc hrs hK hN hP hD (ci := 3) rfl rfl he hn hsize hstack hW hdg hf
theorem gc_M_155 (hF : CallFix p m c cc nL s args Ts R_M) (hT : ∀ w ∈ wG, w ∈ Ts) (hM : Met l y_M_termOf w_M_termOf rm (gw_Pc D classes tys As ws H.size) Qc mc ms free) (hR : rm.frames + 1 ≤ R.frames ∧ 8 + (1 + 11) + rm.locals ≤ R.locals) (hrc : rm.cells = mc) (hrs : rm.slots = ms) (hK : va_K D classes tys s) (hN : gN s) (hP : va_P D classes ws H) (hD : va_D A ws) (hn : As.length = 1) (hsize : ls.size = nL) (hstack : st0 = As.reverse ++ rest) (hW : (rest.map fun v => v.category).sum ≤ 8) (hdg : decode cc pc = .ok (.invokestatic 155, 3)) (hf : cells + mc ≤ R.cells ∧ slots + ms ≤ R.slots) : va_Run p l e R s m args below meth c H locs cells slots mc ms (F0 m pc ls st0) rest (Qc As.toArray) free :=
  gw_rS hF hT hM wm_4_97 wm_4_98 wm_1_6 wm_4_99 (by decide +kernel) hR hrc hrs hK hN hP hD hn hsize hstack hW hdg hf
theorem gc_M_158 (hF : CallFix p m c cc nL s args Ts R_M) (hT : ∀ w ∈ wG, w ∈ Ts) (hM : Met l y_M_listRow w_M_listRow rm (gw_Pc D classes tys (.ref b :: As) ws H.size) Qc mc ms free) (hR : rm.frames + 1 ≤ R.frames ∧ 8 + (5 + 11) + rm.locals ≤ R.locals) (hrc : rm.cells = mc) (hrs : rm.slots = ms) (hK : va_K D classes tys s) (hN : gN s) (hP : va_P D classes ws H) (hD : va_D A ws) (he : ws[q0]? = some (b, .inr (3, fs))) (hn : As.length = 2) (hsize : ls.size = nL) (hstack : st0 = As.reverse ++ .ref b :: rest) (hW : (rest.map fun v => v.category).sum ≤ 8) (hdg : decode cc pc = .ok (.invokevirtual 158, 3)) (hf : cells + mc ≤ R.cells ∧ slots + ms ≤ R.slots) : va_Run p l e R s m args below meth c H locs cells slots mc ms (F0 m pc ls st0) rest (Qc (Value.ref b :: As).toArray) free :=
  gw_rV (C := R_M) hF hT hM wm_4_100 wm_4_102 ws_M_listRow wm_1_6 wm_4_103 (by decide +kernel) hR hrc hrs hK hN hP hD (ci := 3) rfl rfl he hn hsize hstack hW hdg hf
theorem gc_L_168 (hF : CallFix p m c cc nL s args Ts R_L) (hT : ∀ w ∈ wG, w ∈ Ts) (hM : Met l y_M_needs w_M_needs rm (gw_Pc D classes tys (.ref b :: As) ws H.size) Qc mc ms free) (hR : rm.frames + 1 ≤ R.frames ∧ 8 + (3 + 11) + rm.locals ≤ R.locals) (hrc : rm.cells = mc) (hrs : rm.slots = ms) (hK : va_K D classes tys s) (hN : gN s) (hP : va_P D classes ws H) (hD : va_D A ws) (he : ws[q0]? = some (b, .inr (3, fs))) (hn : As.length = 2) (hsize : ls.size = nL) (hstack : st0 = As.reverse ++ .ref b :: rest) (hW : (rest.map fun v => v.category).sum ≤ 8) (hdg : decode cc pc = .ok (.invokevirtual 168, 3)) (hf : cells + mc ≤ R.cells ∧ slots + ms ≤ R.slots) : va_Run p l e R s m args below meth c H locs cells slots mc ms (F0 m pc ls st0) rest (Qc (Value.ref b :: As).toArray) free :=
  gw_rV (C := R_M) hF hT hM wm_4_104 wm_4_105 wm_4_106 wm_1_6 wm_4_107 (by decide +kernel) hR hrc hrs hK hN hP hD (ci := 3) rfl rfl he hn hsize hstack hW hdg hf
theorem gc_L_171 (hF : CallFix p m c cc nL s args Ts R_L) (hT : ∀ w ∈ wG, w ∈ Ts) (hM : Met l y_M_fits w_M_fits rm (gw_Pc D classes tys (.ref b :: As) ws H.size) Qc mc ms free) (hR : rm.frames + 1 ≤ R.frames ∧ 8 + (6 + 11) + rm.locals ≤ R.locals) (hrc : rm.cells = mc) (hrs : rm.slots = ms) (hK : va_K D classes tys s) (hN : gN s) (hP : va_P D classes ws H) (hD : va_D A ws) (he : ws[q0]? = some (b, .inr (3, fs))) (hn : As.length = 3) (hsize : ls.size = nL) (hstack : st0 = As.reverse ++ .ref b :: rest) (hW : (rest.map fun v => v.category).sum ≤ 8) (hdg : decode cc pc = .ok (.invokevirtual 171, 3)) (hf : cells + mc ≤ R.cells ∧ slots + ms ≤ R.slots) : va_Run p l e R s m args below meth c H locs cells slots mc ms (F0 m pc ls st0) rest (Qc (Value.ref b :: As).toArray) free :=
  gw_rV (C := R_M) hF hT hM wm_4_108 wm_4_109 wm_4_110 wm_1_6 wm_4_111 (by decide +kernel) hR hrc hrs hK hN hP hD (ci := 3) rfl rfl he hn hsize hstack hW hdg hf
theorem gc_L_174 (hF : CallFix p m c cc nL s args Ts R_L) (hT : ∀ w ∈ wG, w ∈ Ts) (hM : Met l y_M_array w_M_array rm (gw_Pc D classes tys (.ref b :: As) ws H.size) Qc mc ms free) (hR : rm.frames + 1 ≤ R.frames ∧ 8 + (4 + 11) + rm.locals ≤ R.locals) (hrc : rm.cells = mc) (hrs : rm.slots = ms) (hK : va_K D classes tys s) (hN : gN s) (hP : va_P D classes ws H) (hD : va_D A ws) (he : ws[q0]? = some (b, .inr (3, fs))) (hn : As.length = 3) (hsize : ls.size = nL) (hstack : st0 = As.reverse ++ .ref b :: rest) (hW : (rest.map fun v => v.category).sum ≤ 8) (hdg : decode cc pc = .ok (.invokevirtual 174, 3)) (hf : cells + mc ≤ R.cells ∧ slots + ms ≤ R.slots) : va_Run p l e R s m args below meth c H locs cells slots mc ms (F0 m pc ls st0) rest (Qc (Value.ref b :: As).toArray) free :=
  gw_rV (C := R_M) hF hT hM wm_4_112 wm_4_113 wm_4_114 wm_1_6 wm_4_115 (by decide +kernel) hR hrc hrs hK hN hP hD (ci := 3) rfl rfl he hn hsize hstack hW hdg hf
theorem gc_L_177 (hF : CallFix p m c cc nL s args Ts R_L) (hT : ∀ w ∈ wG, w ∈ Ts) (hM : Met l y_M_told w_M_told rm (gw_Pc D classes tys (.ref b :: As) ws H.size) Qc mc ms free) (hR : rm.frames + 1 ≤ R.frames ∧ 8 + (5 + 11) + rm.locals ≤ R.locals) (hrc : rm.cells = mc) (hrs : rm.slots = ms) (hK : va_K D classes tys s) (hN : gN s) (hP : va_P D classes ws H) (hD : va_D A ws) (he : ws[q0]? = some (b, .inr (3, fs))) (hn : As.length = 1) (hsize : ls.size = nL) (hstack : st0 = As.reverse ++ .ref b :: rest) (hW : (rest.map fun v => v.category).sum ≤ 8) (hdg : decode cc pc = .ok (.invokevirtual 177, 3)) (hf : cells + mc ≤ R.cells ∧ slots + ms ≤ R.slots) : va_Run p l e R s m args below meth c H locs cells slots mc ms (F0 m pc ls st0) rest (Qc (Value.ref b :: As).toArray) free :=
  gw_rV (C := R_M) hF hT hM wm_4_116 wm_4_117 wm_4_118 wm_1_6 wm_4_119 (by decide +kernel) hR hrc hrs hK hN hP hD (ci := 3) rfl rfl he hn hsize hstack hW hdg hf
end SC
end
