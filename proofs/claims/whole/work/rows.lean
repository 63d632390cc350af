section
/-- a private method of a class that the tables say can be made, by its rows of tables_1 -/
def lw_okq (q : MethodName × Nat) : Prop := (q.1.cls ≠ "java/lang/invoke/MethodHandle" ∧ q.1.cls ≠ "java/lang/invoke/VarHandle") ∧ Cond.instantiable q.1.cls q.2 ∈ tables_1 ∧ Cond.privateMethod q.1 ∈ tables_1 ∧ Cond.instanceMethod q.1 ∈ tables_1
theorem lw_p0 : lw_okq (⟨"java/lang/Throwable", "fillInStackTrace", "(I)Ljava/lang/Throwable;"⟩, 6) := ⟨⟨by decide +kernel, by decide +kernel⟩, List.mem_of_getElem? (i := 156) (by decide +kernel), List.mem_of_getElem? (i := 154) (by decide +kernel), List.mem_of_getElem? (i := 155) (by decide +kernel)⟩
theorem lw_p1 : lw_okq (⟨"LinearRows", "checkTerm", "(I)V"⟩, 9) := ⟨⟨by decide +kernel, by decide +kernel⟩, List.mem_of_getElem? (i := 15) (by decide +kernel), List.mem_of_getElem? (i := 203) (by decide +kernel), List.mem_of_getElem? (i := 204) (by decide +kernel)⟩
theorem lw_p2 : lw_okq (⟨"LinearRows$Shape", "closeKeptRows", "()V"⟩, 4) := ⟨⟨by decide +kernel, by decide +kernel⟩, List.mem_of_getElem? (i := 30) (by decide +kernel), List.mem_of_getElem? (i := 272) (by decide +kernel), List.mem_of_getElem? (i := 273) (by decide +kernel)⟩
theorem lw_p3 : lw_okq (⟨"LinearRows$Table", "chainThrough", "(I)V"⟩, 2) := ⟨⟨by decide +kernel, by decide +kernel⟩, List.mem_of_getElem? (i := 36) (by decide +kernel), List.mem_of_getElem? (i := 281) (by decide +kernel), List.mem_of_getElem? (i := 282) (by decide +kernel)⟩
theorem lw_p4 : lw_okq (⟨"LinearRows$Table", "hasOppositesBelowZero", "()Z"⟩, 2) := ⟨⟨by decide +kernel, by decide +kernel⟩, List.mem_of_getElem? (i := 36) (by decide +kernel), List.mem_of_getElem? (i := 285) (by decide +kernel), List.mem_of_getElem? (i := 286) (by decide +kernel)⟩
theorem lw_p5 : lw_okq (⟨"LinearRows$Table", "cutToEven", "()V"⟩, 2) := ⟨⟨by decide +kernel, by decide +kernel⟩, List.mem_of_getElem? (i := 36) (by decide +kernel), List.mem_of_getElem? (i := 289) (by decide +kernel), List.mem_of_getElem? (i := 290) (by decide +kernel)⟩
theorem lw_p6 : lw_okq (⟨"LinearRows$Table", "hasTwicesThatContradict", "()Z"⟩, 2) := ⟨⟨by decide +kernel, by decide +kernel⟩, List.mem_of_getElem? (i := 36) (by decide +kernel), List.mem_of_getElem? (i := 295) (by decide +kernel), List.mem_of_getElem? (i := 296) (by decide +kernel)⟩
theorem lw_p7 : lw_okq (⟨"LinearRows$Table", "addHalves", "()V"⟩, 2) := ⟨⟨by decide +kernel, by decide +kernel⟩, List.mem_of_getElem? (i := 36) (by decide +kernel), List.mem_of_getElem? (i := 303) (by decide +kernel), List.mem_of_getElem? (i := 304) (by decide +kernel)⟩
theorem lw_p8 : lw_okq (⟨"LinearRows", "takeMade", "(I)I"⟩, 9) := ⟨⟨by decide +kernel, by decide +kernel⟩, List.mem_of_getElem? (i := 15) (by decide +kernel), List.mem_of_getElem? (i := 312) (by decide +kernel), List.mem_of_getElem? (i := 313) (by decide +kernel)⟩
theorem lw_p9 : lw_okq (⟨"LinearRows$Shape", "keepBounds", "()V"⟩, 4) := ⟨⟨by decide +kernel, by decide +kernel⟩, List.mem_of_getElem? (i := 30) (by decide +kernel), List.mem_of_getElem? (i := 380) (by decide +kernel), List.mem_of_getElem? (i := 381) (by decide +kernel)⟩
theorem lw_p10 : lw_okq (⟨"LinearRows", "checkName", "(I)V"⟩, 9) := ⟨⟨by decide +kernel, by decide +kernel⟩, List.mem_of_getElem? (i := 15) (by decide +kernel), List.mem_of_getElem? (i := 436) (by decide +kernel), List.mem_of_getElem? (i := 437) (by decide +kernel)⟩
theorem lw_p11 : lw_okq (⟨"LinearRows", "numberAt", "(I)J"⟩, 9) := ⟨⟨by decide +kernel, by decide +kernel⟩, List.mem_of_getElem? (i := 15) (by decide +kernel), List.mem_of_getElem? (i := 499) (by decide +kernel), List.mem_of_getElem? (i := 500) (by decide +kernel)⟩
theorem lw_p12 : lw_okq (⟨"LinearRows", "sampleNumber", "(LLinearRows$Table;I)J"⟩, 9) := ⟨⟨by decide +kernel, by decide +kernel⟩, List.mem_of_getElem? (i := 15) (by decide +kernel), List.mem_of_getElem? (i := 511) (by decide +kernel), List.mem_of_getElem? (i := 512) (by decide +kernel)⟩
theorem lw_p13 : lw_okq (⟨"LinearRows", "greatestBeside", "(LLinearRows$Table;I)J"⟩, 9) := ⟨⟨by decide +kernel, by decide +kernel⟩, List.mem_of_getElem? (i := 15) (by decide +kernel), List.mem_of_getElem? (i := 516) (by decide +kernel), List.mem_of_getElem? (i := 517) (by decide +kernel)⟩
theorem lw_p14 : lw_okq (⟨"LinearRows", "tellRow", "(IIJ)V"⟩, 9) := ⟨⟨by decide +kernel, by decide +kernel⟩, List.mem_of_getElem? (i := 15) (by decide +kernel), List.mem_of_getElem? (i := 531) (by decide +kernel), List.mem_of_getElem? (i := 532) (by decide +kernel)⟩
theorem lw_p15 : lw_okq (⟨"LinearRows", "leaveOutPairs", "()V"⟩, 9) := ⟨⟨by decide +kernel, by decide +kernel⟩, List.mem_of_getElem? (i := 15) (by decide +kernel), List.mem_of_getElem? (i := 536) (by decide +kernel), List.mem_of_getElem? (i := 537) (by decide +kernel)⟩
def lw_privs_1 : List (MethodName × Nat) := [(⟨"java/lang/Throwable", "fillInStackTrace", "(I)Ljava/lang/Throwable;"⟩, 6), (⟨"LinearRows", "checkTerm", "(I)V"⟩, 9), (⟨"LinearRows$Shape", "closeKeptRows", "()V"⟩, 4), (⟨"LinearRows$Table", "chainThrough", "(I)V"⟩, 2), (⟨"LinearRows$Table", "hasOppositesBelowZero", "()Z"⟩, 2), (⟨"LinearRows$Table", "cutToEven", "()V"⟩, 2), (⟨"LinearRows$Table", "hasTwicesThatContradict", "()Z"⟩, 2), (⟨"LinearRows$Table", "addHalves", "()V"⟩, 2), (⟨"LinearRows", "takeMade", "(I)I"⟩, 9), (⟨"LinearRows$Shape", "keepBounds", "()V"⟩, 4), (⟨"LinearRows", "checkName", "(I)V"⟩, 9), (⟨"LinearRows", "numberAt", "(I)J"⟩, 9), (⟨"LinearRows", "sampleNumber", "(LLinearRows$Table;I)J"⟩, 9), (⟨"LinearRows", "greatestBeside", "(LLinearRows$Table;I)J"⟩, 9), (⟨"LinearRows", "tellRow", "(IIJ)V"⟩, 9), (⟨"LinearRows", "leaveOutPairs", "()V"⟩, 9)]
theorem lw_r1 : ∀ q ∈ lw_privs_1, lw_okq q := List.forall_mem_cons.mpr ⟨lw_p0, List.forall_mem_cons.mpr ⟨lw_p1, List.forall_mem_cons.mpr ⟨lw_p2, List.forall_mem_cons.mpr ⟨lw_p3, List.forall_mem_cons.mpr ⟨lw_p4, List.forall_mem_cons.mpr ⟨lw_p5, List.forall_mem_cons.mpr ⟨lw_p6, List.forall_mem_cons.mpr ⟨lw_p7, List.forall_mem_cons.mpr ⟨lw_p8, List.forall_mem_cons.mpr ⟨lw_p9, List.forall_mem_cons.mpr ⟨lw_p10, List.forall_mem_cons.mpr ⟨lw_p11, List.forall_mem_cons.mpr ⟨lw_p12, List.forall_mem_cons.mpr ⟨lw_p13, List.forall_mem_cons.mpr ⟨lw_p14, List.forall_mem_cons.mpr ⟨lw_p15, fun _ h => absurd h List.not_mem_nil⟩⟩⟩⟩⟩⟩⟩⟩⟩⟩⟩⟩⟩⟩⟩⟩
theorem lw_p16 : lw_okq (⟨"LinearRows", "leaveOutUnlessNeeded", "(II)V"⟩, 9) := ⟨⟨by decide +kernel, by decide +kernel⟩, List.mem_of_getElem? (i := 15) (by decide +kernel), List.mem_of_getElem? (i := 543) (by decide +kernel), List.mem_of_getElem? (i := 544) (by decide +kernel)⟩
theorem lw_p17 : lw_okq (⟨"LinearRows", "leaveOutSingles", "()V"⟩, 9) := ⟨⟨by decide +kernel, by decide +kernel⟩, List.mem_of_getElem? (i := 15) (by decide +kernel), List.mem_of_getElem? (i := 549) (by decide +kernel), List.mem_of_getElem? (i := 550) (by decide +kernel)⟩
theorem lw_p18 : lw_okq (⟨"LinearRows", "tellLeftRows", "()V"⟩, 9) := ⟨⟨by decide +kernel, by decide +kernel⟩, List.mem_of_getElem? (i := 15) (by decide +kernel), List.mem_of_getElem? (i := 553) (by decide +kernel), List.mem_of_getElem? (i := 554) (by decide +kernel)⟩
theorem lw_p19 : lw_okq (⟨"LinearRows", "countEmpty", "()I"⟩, 9) := ⟨⟨by decide +kernel, by decide +kernel⟩, List.mem_of_getElem? (i := 15) (by decide +kernel), List.mem_of_getElem? (i := 591) (by decide +kernel), List.mem_of_getElem? (i := 592) (by decide +kernel)⟩
theorem lw_p20 : lw_okq (⟨"LinearRowsModel", "isShape", "(I)Z"⟩, 13) := ⟨⟨by decide +kernel, by decide +kernel⟩, List.mem_of_getElem? (i := 599) (by decide +kernel), List.mem_of_getElem? (i := 656) (by decide +kernel), List.mem_of_getElem? (i := 657) (by decide +kernel)⟩
theorem lw_p21 : lw_okq (⟨"LinearRowsModel", "none", "(I)V"⟩, 13) := ⟨⟨by decide +kernel, by decide +kernel⟩, List.mem_of_getElem? (i := 599) (by decide +kernel), List.mem_of_getElem? (i := 660) (by decide +kernel), List.mem_of_getElem? (i := 661) (by decide +kernel)⟩
theorem lw_p22 : lw_okq (⟨"LinearRowsModel", "isTerm", "(I)Z"⟩, 13) := ⟨⟨by decide +kernel, by decide +kernel⟩, List.mem_of_getElem? (i := 599) (by decide +kernel), List.mem_of_getElem? (i := 668) (by decide +kernel), List.mem_of_getElem? (i := 669) (by decide +kernel)⟩
theorem lw_p23 : lw_okq (⟨"LinearRowsModel", "closeShape", "(I)Z"⟩, 13) := ⟨⟨by decide +kernel, by decide +kernel⟩, List.mem_of_getElem? (i := 599) (by decide +kernel), List.mem_of_getElem? (i := 684) (by decide +kernel), List.mem_of_getElem? (i := 685) (by decide +kernel)⟩
theorem lw_p24 : lw_okq (⟨"LinearRowsModel", "loadRows", "(I)V"⟩, 13) := ⟨⟨by decide +kernel, by decide +kernel⟩, List.mem_of_getElem? (i := 599) (by decide +kernel), List.mem_of_getElem? (i := 688) (by decide +kernel), List.mem_of_getElem? (i := 689) (by decide +kernel)⟩
theorem lw_p25 : lw_okq (⟨"LinearRowsModel", "close", "()Z"⟩, 13) := ⟨⟨by decide +kernel, by decide +kernel⟩, List.mem_of_getElem? (i := 599) (by decide +kernel), List.mem_of_getElem? (i := 692) (by decide +kernel), List.mem_of_getElem? (i := 693) (by decide +kernel)⟩
theorem lw_p26 : lw_okq (⟨"LinearRowsModel", "isFar", "()Z"⟩, 13) := ⟨⟨by decide +kernel, by decide +kernel⟩, List.mem_of_getElem? (i := 599) (by decide +kernel), List.mem_of_getElem? (i := 702) (by decide +kernel), List.mem_of_getElem? (i := 703) (by decide +kernel)⟩
theorem lw_p27 : lw_okq (⟨"LinearRowsModel", "boundOf", "(II)J"⟩, 13) := ⟨⟨by decide +kernel, by decide +kernel⟩, List.mem_of_getElem? (i := 599) (by decide +kernel), List.mem_of_getElem? (i := 712) (by decide +kernel), List.mem_of_getElem? (i := 713) (by decide +kernel)⟩
theorem lw_p28 : lw_okq (⟨"LinearRowsModel", "areShapes", "(III)Z"⟩, 13) := ⟨⟨by decide +kernel, by decide +kernel⟩, List.mem_of_getElem? (i := 599) (by decide +kernel), List.mem_of_getElem? (i := 725) (by decide +kernel), List.mem_of_getElem? (i := 726) (by decide +kernel)⟩
theorem lw_p29 : lw_okq (⟨"LinearRowsModel", "keepClosed", "(IZ)I"⟩, 13) := ⟨⟨by decide +kernel, by decide +kernel⟩, List.mem_of_getElem? (i := 599) (by decide +kernel), List.mem_of_getElem? (i := 729) (by decide +kernel), List.mem_of_getElem? (i := 730) (by decide +kernel)⟩
theorem lw_p30 : lw_okq (⟨"LinearRowsModel", "copyTable", "(Z)V"⟩, 13) := ⟨⟨by decide +kernel, by decide +kernel⟩, List.mem_of_getElem? (i := 599) (by decide +kernel), List.mem_of_getElem? (i := 733) (by decide +kernel), List.mem_of_getElem? (i := 734) (by decide +kernel)⟩
theorem lw_p31 : lw_okq (⟨"LinearRowsModel", "copyRows", "(II)V"⟩, 13) := ⟨⟨by decide +kernel, by decide +kernel⟩, List.mem_of_getElem? (i := 599) (by decide +kernel), List.mem_of_getElem? (i := 745) (by decide +kernel), List.mem_of_getElem? (i := 746) (by decide +kernel)⟩
def lw_privs_2 : List (MethodName × Nat) := [(⟨"LinearRows", "leaveOutUnlessNeeded", "(II)V"⟩, 9), (⟨"LinearRows", "leaveOutSingles", "()V"⟩, 9), (⟨"LinearRows", "tellLeftRows", "()V"⟩, 9), (⟨"LinearRows", "countEmpty", "()I"⟩, 9), (⟨"LinearRowsModel", "isShape", "(I)Z"⟩, 13), (⟨"LinearRowsModel", "none", "(I)V"⟩, 13), (⟨"LinearRowsModel", "isTerm", "(I)Z"⟩, 13), (⟨"LinearRowsModel", "closeShape", "(I)Z"⟩, 13), (⟨"LinearRowsModel", "loadRows", "(I)V"⟩, 13), (⟨"LinearRowsModel", "close", "()Z"⟩, 13), (⟨"LinearRowsModel", "isFar", "()Z"⟩, 13), (⟨"LinearRowsModel", "boundOf", "(II)J"⟩, 13), (⟨"LinearRowsModel", "areShapes", "(III)Z"⟩, 13), (⟨"LinearRowsModel", "keepClosed", "(IZ)I"⟩, 13), (⟨"LinearRowsModel", "copyTable", "(Z)V"⟩, 13), (⟨"LinearRowsModel", "copyRows", "(II)V"⟩, 13)]
theorem lw_r2 : ∀ q ∈ lw_privs_2, lw_okq q := List.forall_mem_cons.mpr ⟨lw_p16, List.forall_mem_cons.mpr ⟨lw_p17, List.forall_mem_cons.mpr ⟨lw_p18, List.forall_mem_cons.mpr ⟨lw_p19, List.forall_mem_cons.mpr ⟨lw_p20, List.forall_mem_cons.mpr ⟨lw_p21, List.forall_mem_cons.mpr ⟨lw_p22, List.forall_mem_cons.mpr ⟨lw_p23, List.forall_mem_cons.mpr ⟨lw_p24, List.forall_mem_cons.mpr ⟨lw_p25, List.forall_mem_cons.mpr ⟨lw_p26, List.forall_mem_cons.mpr ⟨lw_p27, List.forall_mem_cons.mpr ⟨lw_p28, List.forall_mem_cons.mpr ⟨lw_p29, List.forall_mem_cons.mpr ⟨lw_p30, List.forall_mem_cons.mpr ⟨lw_p31, fun _ h => absurd h List.not_mem_nil⟩⟩⟩⟩⟩⟩⟩⟩⟩⟩⟩⟩⟩⟩⟩⟩
theorem lw_p32 : lw_okq (⟨"LinearRowsModel", "closeMade", "()Z"⟩, 13) := ⟨⟨by decide +kernel, by decide +kernel⟩, List.mem_of_getElem? (i := 599) (by decide +kernel), List.mem_of_getElem? (i := 749) (by decide +kernel), List.mem_of_getElem? (i := 750) (by decide +kernel)⟩
theorem lw_p33 : lw_okq (⟨"LinearRowsModel", "keepMade", "(I)V"⟩, 13) := ⟨⟨by decide +kernel, by decide +kernel⟩, List.mem_of_getElem? (i := 599) (by decide +kernel), List.mem_of_getElem? (i := 753) (by decide +kernel), List.mem_of_getElem? (i := 754) (by decide +kernel)⟩
theorem lw_p34 : lw_okq (⟨"LinearRowsModel", "isName", "(I)Z"⟩, 13) := ⟨⟨by decide +kernel, by decide +kernel⟩, List.mem_of_getElem? (i := 599) (by decide +kernel), List.mem_of_getElem? (i := 769) (by decide +kernel), List.mem_of_getElem? (i := 770) (by decide +kernel)⟩
theorem lw_p35 : lw_okq (⟨"LinearRowsModel", "turn", "(IZJ)V"⟩, 13) := ⟨⟨by decide +kernel, by decide +kernel⟩, List.mem_of_getElem? (i := 599) (by decide +kernel), List.mem_of_getElem? (i := 773) (by decide +kernel), List.mem_of_getElem? (i := 774) (by decide +kernel)⟩
theorem lw_p36 : lw_okq (⟨"LinearRowsModel", "drop", "(I)V"⟩, 13) := ⟨⟨by decide +kernel, by decide +kernel⟩, List.mem_of_getElem? (i := 599) (by decide +kernel), List.mem_of_getElem? (i := 777) (by decide +kernel), List.mem_of_getElem? (i := 778) (by decide +kernel)⟩
theorem lw_p37 : lw_okq (⟨"LinearRowsModel", "addRow", "(IIJ)V"⟩, 13) := ⟨⟨by decide +kernel, by decide +kernel⟩, List.mem_of_getElem? (i := 599) (by decide +kernel), List.mem_of_getElem? (i := 781) (by decide +kernel), List.mem_of_getElem? (i := 782) (by decide +kernel)⟩
theorem lw_p38 : lw_okq (⟨"LinearRowsModel", "valueAt", "(I)J"⟩, 13) := ⟨⟨by decide +kernel, by decide +kernel⟩, List.mem_of_getElem? (i := 599) (by decide +kernel), List.mem_of_getElem? (i := 805) (by decide +kernel), List.mem_of_getElem? (i := 806) (by decide +kernel)⟩
theorem lw_p39 : lw_okq (⟨"LinearRowsModel", "listRow", "(II)V"⟩, 13) := ⟨⟨by decide +kernel, by decide +kernel⟩, List.mem_of_getElem? (i := 599) (by decide +kernel), List.mem_of_getElem? (i := 821) (by decide +kernel), List.mem_of_getElem? (i := 822) (by decide +kernel)⟩
def lw_privs_3 : List (MethodName × Nat) := [(⟨"LinearRowsModel", "closeMade", "()Z"⟩, 13), (⟨"LinearRowsModel", "keepMade", "(I)V"⟩, 13), (⟨"LinearRowsModel", "isName", "(I)Z"⟩, 13), (⟨"LinearRowsModel", "turn", "(IZJ)V"⟩, 13), (⟨"LinearRowsModel", "drop", "(I)V"⟩, 13), (⟨"LinearRowsModel", "addRow", "(IIJ)V"⟩, 13), (⟨"LinearRowsModel", "valueAt", "(I)J"⟩, 13), (⟨"LinearRowsModel", "listRow", "(II)V"⟩, 13)]
theorem lw_r3 : ∀ q ∈ lw_privs_3, lw_okq q := List.forall_mem_cons.mpr ⟨lw_p32, List.forall_mem_cons.mpr ⟨lw_p33, List.forall_mem_cons.mpr ⟨lw_p34, List.forall_mem_cons.mpr ⟨lw_p35, List.forall_mem_cons.mpr ⟨lw_p36, List.forall_mem_cons.mpr ⟨lw_p37, List.forall_mem_cons.mpr ⟨lw_p38, List.forall_mem_cons.mpr ⟨lw_p39, fun _ h => absurd h List.not_mem_nil⟩⟩⟩⟩⟩⟩⟩⟩
def lw_privs : List (MethodName × Nat) := lw_privs_1 ++ (lw_privs_2 ++ (lw_privs_3))
def lw_tbl : List Cond := k2_sels lw_privs ++ tables_1
theorem lw_privs_ok : ∀ q ∈ lw_privs, lw_okq q := by
  show ∀ q ∈ lw_privs_1 ++ (lw_privs_2 ++ (lw_privs_3)), lw_okq q
  exact List.forall_mem_append.mpr ⟨lw_r1, List.forall_mem_append.mpr ⟨lw_r2, lw_r3⟩⟩
end
section
/-! ===== BEGIN words of one list among another's, by their places ===== -/
theorem goodIn_r {big : List Cond} (ws : List Cond) (ps : List Nat) (hp : ws = ps.filterMap (fun i => big[i]?)) (h : ws.all goodWord = true) : GoodIn big ws := by
  intro w hw
  have h1 := List.all_eq_true.mp h w hw
  rw [hp] at hw
  obtain ⟨i, -, hi⟩ := List.mem_filterMap.mp hw
  have hm : w ∈ big := by first | exact List.mem_of_getElem? hi | exact List.getElem?_mem hi
  exact ⟨hm, good_of_word h1⟩
theorem goodIn_app {big a b : List Cond} (ha : GoodIn big a) (hb : GoodIn big b) : GoodIn big (a ++ b) := fun w h => (List.mem_append.mp h).elim (ha w) (hb w)
theorem goodIn_ca {big a b : List Cond} {c : Cond} (ha : GoodIn big (c :: a)) (hb : GoodIn big b) : GoodIn big (c :: (a ++ b)) := fun w h => (List.mem_cons.mp h).elim (fun e => ha w (List.mem_cons.mpr (Or.inl e))) (fun h => (List.mem_append.mp h).elim (fun h => ha w (List.mem_cons.mpr (Or.inr h))) (hb w))
theorem goodIn_sub {big ws : List Cond} (hm : ∀ w ∈ ws, w ∈ big) (h : ws.all goodWord = true) : GoodIn big ws := fun w hw => ⟨hm w hw, good_of_word (List.all_eq_true.mp h w hw)⟩
/-! ===== END ===== -/

/-! ===== BEGIN exceptions that leave a method, and their catching by the caller (launches without stack traces) ===== -/
section VXA
/-! The laws vx_back, vx_callV, vx_callS, vx_callSW, vx_throw0, vx_throwS follow proofs of the library, with one case more: JvmDerived/Free/Laws.lean (Back.of_free), Shelf42/LK1.lean (callV, callS), Shelf/KitTraced.lean (throwNew0V, throwNewS). -/
/-- where a method has thrown q: the class by its name, the cell, what was written, the world -/
def vx_T (XC : String → State → State → Prop) (st : State) (q : Addr) (t : State) (mc ms : Nat) (free : Addr → Prop) : Prop :=
  ∃ (E : String) (ce : Cell) (L : List Loc), XC E st t ∧ t.heap[q]? = some ce ∧ ce.vm = .none ∧ st.vm.findClass E = some ce.cls ∧ st.WarmedH t.vm ∧ st.sameButNew ({ t with vm := st.vm } : State) L mc ms ∧ ∀ z ∈ L, free z.base
def vx_Q (Qc : Array Value → State → Outcome → State → Prop) (XC : String → State → State → Prop) (mc ms : Nat) (free : Addr → Prop) : Array Value → State → Outcome → State → Prop := fun a st o t =>
  (Qc a st o t ∧ ∃ L, FrameEnd st o t L mc ms ∧ ∀ q ∈ L, free q.base) ∨ ∃ q, o = .threw q ∧ vx_T XC st q t mc ms free
/-- a callee that returns or throws -/
def vx_Met (l : Launch) (y : MethodName) (ws : List Cond) (rm : Room) (Pc : Array Value → State → Prop) (Qc : Array Value → State → Outcome → State → Prop) (XC : String → State → State → Prop) (mc ms : Nat) (free : Addr → Prop) : Prop :=
  MetFree l y (headSpec ws rm) Pc (fun _ _ _ _ _ => True) (vx_Q Qc XC mc ms free)
def vx_Post (XC : String → State → State → Prop) (mc ms : Nat) (free : Addr → Prop) : Pt → Array Value → Addr → Pt → Prop := fun A a q B =>
  ∃ (g : JFrame) (mk : MethodId) (t : State) (L : List Loc) (E : String) (ce : Cell), B.U.heap = t.heap ∧ B.U.vm = t.vm ∧ XC E (A.U.calling g mk a) t ∧ t.heap[q]? = some ce ∧ ce.vm = .none ∧ A.U.vm.findClass E = some ce.cls ∧ B.locs = A.locs ++ L ∧ (∀ z ∈ L, free z.base) ∧ B.cells = A.cells + mc ∧ B.slots = A.slots + ms
def vx_Back (l : Launch) (R : Room) (p : Program) (e : Env) (below : List Frame) (s : State) (sargs : Array Value) (y : MethodName) (len W9 : Nat)
    (Pre : Pt → Array Value → Prop) (Post : Pt → Array Value → Option Value → Pt → Prop) (PostX : Pt → Array Value → Addr → Pt → Prop) : Prop :=
  ∀ (m : MethodId) (meth : Method) (c : Code) (A : Pt) (g : JFrame) (ig : Instr) (mk : MethodId) (a : Array Value),
    Stand p l e R s m sargs below meth c A.U A.locs A.cells A.slots → g.method = m → g.locals.size = c.maxLocals → decode c.code g.pc = .ok (ig, len) →
    2 * g.monitorRoom + (g.stack.map fun v => v.category).sum ≤ W9 → A.U.methodNamed? y = some mk → Pre A a →
    (∃ (v : Option Value) (B : Pt), Stand p l e R s m sargs below meth c B.U B.locs B.cells B.slots ∧ Post A a v B ∧
      Steps p.tables e below (doInvoke e (A.U.setTop g) [] mk a).1 (B.U.setTop { g with pc := g.pc + len, stack := v.toList ++ g.stack })) ∨
    (∃ (q : Addr) (B : Pt), Stand p l e R s m sargs below meth c B.U B.locs B.cells B.slots ∧ PostX A a q B ∧
      Steps p.tables e below (doInvoke e (A.U.setTop g) [] mk a).1 ((B.U.setTop g).pushFrame (.throwing q)))
section Payer
variable {l : Launch} {R : Room} {p : Program} {e : Env} {below : List Frame} {s : State} {sargs : Array Value} {y : MethodName} {len W9 : Nat}
theorem vx_back {ws : List Cond} {rm : Room} {Pc : Array Value → State → Prop} {Qc : Array Value → State → Outcome → State → Prop} {XC : String → State → State → Prop} {mc ms : Nat} {free : Addr → Prop} {bytes : ByteArray} {maxL : Nat} {ret : Option FieldType}
    (hM : vx_Met l y ws rm Pc Qc XC mc ms free) (hblind : FrameBlind Pc) (hrc : rm.cells = mc) (hrs : rm.slots = ms)
    (hframes : rm.frames + 1 ≤ R.frames) (hlocals : W9 + (maxL + 11) + rm.locals ≤ R.locals)
    (hws : ∀ w ∈ ws, ∀ a' U, s.WarmedH U.vm → w.before a' U = true) (hcode : Cond.code y bytes maxL ret ∈ ws) (hinit : ∀ a' U, s.WarmedH U.vm → (Cond.initialized y.cls).before a' U = true) :
    vx_Back l R p e below s sargs y len W9 (PreOf R mc ms Pc) (PostOf Qc mc ms free) (vx_Post XC mc ms free) := by
  intro m meth c A g ig mk a X hg hsize hdg hW hn hp
  have h1 : (headSpec ws rm).pre.before a A.U = true := atoms_intro fun w hw => hws w hw _ _ X.warmed
  have h2 : (Cond.code y bytes maxL ret).before a A.U = true := hws _ hcode _ _ X.warmed
  have h3 : (Cond.initialized y.cls).before a A.U = true := hinit _ _ X.warmed
  have h4 : A.cells + (headSpec ws rm).room.cells ≤ R.cells := by rw [show (headSpec ws rm).room.cells = mc from hrc]; exact hp.1
  have h5 : A.slots + (headSpec ws rm).room.slots ≤ R.slots := by rw [show (headSpec ws rm).room.slots = ms from hrs]; exact hp.2.1
  have hPc : Pc a (A.U.calling g mk a) := hblind _ _ _ _ hp.2.2
  obtain ⟨U, Ls, c0, s0⟩ := A
  dsimp only [Pt.U, Pt.locs, Pt.cells, Pt.slots] at h1 h2 h3 h4 h5 X hn hPc ⊢
  obtain ⟨methY, cY, hmY, hcY, -, hlY, -, -, -, -⟩ := Cond.code_spec hn h2
  obtain ⟨kY, hkY, -⟩ := className_of_methodNamed hn
  have hinitY : kY.init = .initialized := Cond.initialized_spec (findClass_of_methodNamed hn) hkY h3
  have h : At U g.method c below := by rw [hg]; exact X.here
  have hlocals9 : W9 + (maxL + 11) + (headSpec ws rm).room.locals ≤ R.locals := hlocals
  have happ : (headSpec ws rm).appliesLoose y e.platform (U.calling g mk a) = true :=
    Spec.appliesLoose_calling (g := g) h hdg hn hkY hinitY
      (X.room_calling (g := g) (R' := (headSpec ws rm).room) hsize hmY hcY hframes (by rw [hlY]; omega) h4 h5) h1
  obtain ⟨mid, hmid⟩ := h.above
  have hfr : (U.setTop g).frames = (.java g :: mid) ++ below := by rw [State.frames_setTop' g h.top, hmid]; rfl
  obtain ⟨o, s₂, hsteps, -, hend, hq⟩ := Steps.callFree hM p X.admits X.cas X.clock (acts := []) hfr happ hPc trivial
  have hq' : vx_Q Qc XC mc ms free a (U.calling g mk a) o s₂ := hq
  rw [State.frames_setTop' g h.top] at hend
  obtain ⟨g₀, hg0⟩ := Option.isSome_iff_exists.mp h.top
  obtain ⟨r, hr⟩ := State.topJava?_eq_some.mp hg0
  have hr' : (({ U with heap := s₂.heap, slotsUsed := s₂.slotsUsed } : State).setVm s₂.vm).frames = .java g₀ :: r := hr
  rcases hq' with ⟨hqc, L, hfe, hL⟩ | ⟨q, rfl, E, ce, L, hx, hce, hcv, hcl, hW₂, hsm, hL⟩
  · obtain ⟨⟨v, rfl⟩, hW₂, e2, q2, q3, q4, q5, q6⟩ := id hfe
    have e3 : s₂ = ({ (U.calling g mk a).setFrames s₂.frames with heap := s₂.heap, slotsUsed := s₂.slotsUsed } : State).setVm s₂.vm := by
      have : s₂ = ({ s₂ with vm := (U.calling g mk a).vm } : State).setVm s₂.vm := rfl
      rw [e2] at this
      exact this
    obtain ⟨c₂, i₂, len₂, hc₂, hd₂, hf₂⟩ := hend
    have hW' : U.WarmedH s₂.vm := hW₂
    have hcc : c₂ = c := by
      have h1 : s₂.code? g.method = U.code? g.method := by
        rw [State.code?_eq, State.code?_eq, hW'.alike.method?]
      exact Option.some.inj (hc₂.symm.trans (h1.trans h.code))
    subst hcc
    have hlen : len₂ = len := by rw [hdg] at hd₂; cases hd₂; rfl
    subst hlen
    have hs₂ : s₂ = (({ U with heap := s₂.heap, slotsUsed := s₂.slotsUsed } : State).setVm s₂.vm).setTop { g with pc := g.pc + len₂, stack := v.toList ++ g.stack } := by
      refine e3.trans ?_
      rw [hf₂, State.calling_eq h.top, State.setFrames_setFrames, State.setTop_of_frames _ hr', hr]
      rfl
    have hsame : U.sameButNew ({ U with heap := s₂.heap, slotsUsed := s₂.slotsUsed } : State) L mc ms := by
      refine ⟨?_, q2, q3, q4, q5, q6⟩
      obtain ⟨t, ht, -⟩ := State.frames_cons hr
      show ({ U with heap := s₂.heap, slotsUsed := s₂.slotsUsed } : State) = { U.setFrames U.frames with heap := s₂.heap, slotsUsed := s₂.slotsUsed }
      rw [State.setFrames_self ht]
    subst hg
    refine Or.inl ⟨v, ⟨(({ U with heap := s₂.heap, slotsUsed := s₂.slotsUsed } : State).setVm s₂.vm), Ls ++ L, c0 + mc, s0 + ms⟩,
      ⟨X.admits, X.cas, X.clock, X.frames, X.room, X.hears, X.method, X.code, (X.here.setHeapUsed s₂.heap s₂.slotsUsed).setVm hW'.alike, X.tail, State.WarmedH.trans X.warmed hW', X.limits, X.bytes, X.same.trans (hsame.setVm s.vm)⟩,
      ⟨g, mk, s₂, L, rfl, rfl, hqc, rfl, hL, rfl, rfl⟩, ?_⟩
    show Steps p.tables e below _ ((({ U with heap := s₂.heap, slotsUsed := s₂.slotsUsed } : State).setVm s₂.vm).setTop { g with pc := g.pc + len₂, stack := v.toList ++ g.stack })
    rw [← hs₂]
    exact hsteps
  · obtain ⟨e2, q2, q3, q4, q5, q6⟩ := id hsm
    have e3 : s₂ = ({ (U.calling g mk a).setFrames s₂.frames with heap := s₂.heap, slotsUsed := s₂.slotsUsed } : State).setVm s₂.vm := by
      have : s₂ = ({ s₂ with vm := (U.calling g mk a).vm } : State).setVm s₂.vm := rfl
      rw [e2] at this
      exact this
    have hf₂ : s₂.frames = .throwing q :: .java g :: U.frames.tail := hend
    have hW' : U.WarmedH s₂.vm := hW₂
    have hs₂ : s₂ = ((({ U with heap := s₂.heap, slotsUsed := s₂.slotsUsed } : State).setVm s₂.vm).setTop g).pushFrame (.throwing q) := by
      refine e3.trans ?_
      rw [hf₂, State.calling_eq h.top, State.setFrames_setFrames, State.pushFrame, State.frames_setTop _ hr', State.setTop_of_frames _ hr', State.setFrames_setFrames, hr]
      rfl
    have hsame : U.sameButNew ({ U with heap := s₂.heap, slotsUsed := s₂.slotsUsed } : State) L mc ms := by
      refine ⟨?_, q2, q3, q4, q5, q6⟩
      obtain ⟨t, ht, -⟩ := State.frames_cons hr
      show ({ U with heap := s₂.heap, slotsUsed := s₂.slotsUsed } : State) = { U.setFrames U.frames with heap := s₂.heap, slotsUsed := s₂.slotsUsed }
      rw [State.setFrames_self ht]
    subst hg
    refine Or.inr ⟨q, ⟨(({ U with heap := s₂.heap, slotsUsed := s₂.slotsUsed } : State).setVm s₂.vm), Ls ++ L, c0 + mc, s0 + ms⟩,
      ⟨X.admits, X.cas, X.clock, X.frames, X.room, X.hears, X.method, X.code, (X.here.setHeapUsed s₂.heap s₂.slotsUsed).setVm hW'.alike, X.tail, State.WarmedH.trans X.warmed hW', X.limits, X.bytes, X.same.trans (hsame.setVm s.vm)⟩,
      ⟨g, mk, s₂, L, E, ce, rfl, rfl, hx, hce, hcv, hcl, rfl, hL, rfl, rfl⟩, ?_⟩
    show Steps p.tables e below _ (((({ U with heap := s₂.heap, slotsUsed := s₂.slotsUsed } : State).setVm s₂.vm).setTop g).pushFrame (.throwing q))
    rw [← hs₂]
    exact hsteps
end Payer
section Calls
variable {p : Program} {l : Launch} {e : Env} {R : Room} {s : State} {m : MethodId} {args : Array Value} {below : List Frame} {meth : Method} {c : Code} {T : State} {locs : List Loc} {cells slots : Nat}
theorem vx_callV (X : Stand p l e R s m args below meth c T locs cells slots) (hexec : p.tables.exec = Jvm.exec) {own C : String} {index : Nat} {y : MethodName} {bytes : ByteArray} {maxL : Nat} {ret : Option FieldType}
    (hown : s.vm.findClass own = some m.cls) (hlink : (Cond.methodLink own index y).before args s = true) (hinst : (Cond.instanceMethod y).before args s = true) (hsel : (Cond.selects C y y).before args s = true)
    (hcode : (Cond.code y bytes maxL ret).before args s = true) (hy : y.cls ≠ "java/lang/invoke/MethodHandle" ∧ y.cls ≠ "java/lang/invoke/VarHandle")
    {W9 : Nat} {Pre : Pt → Array Value → Prop} {Post : Pt → Array Value → Option Value → Pt → Prop} {PostX : Pt → Array Value → Addr → Pt → Prop} (hK : vx_Back l R p e below s args y 3 W9 Pre Post PostX)
    {b : Addr} {cellB : Cell} (hcell : T.heap[b]? = some cellB) (hobj : cellB.vm.isStatics = false) (hcls : s.vm.findClass C = some cellB.cls)
    {g : JFrame} (hg : g.method = m) (hsize : g.locals.size = c.maxLocals) {argsL rest : List Value} (hlen : ∀ sig, parseMethodDescriptor y.desc = some sig → argsL.length = sig.parameters.length)
    (hstack : g.stack = argsL.reverse ++ .ref b :: rest) (hW : 2 * g.monitorRoom + (rest.map fun v => v.category).sum ≤ W9) (hdg : decode c.code g.pc = .ok (.invokevirtual index, 3))
    (hpre : ∀ vm₁, s.WarmedH vm₁ → Pre ⟨T.setVm vm₁, locs, cells, slots⟩ (Value.ref b :: argsL).toArray) :
    (∃ (v : Option Value) (vm₁ : Vm) (B : Pt), s.WarmedH vm₁ ∧ Stand p l e R s m args below meth c B.U B.locs B.cells B.slots ∧ Post ⟨T.setVm vm₁, locs, cells, slots⟩ (Value.ref b :: argsL).toArray v B ∧
      ∀ target, Steps p.tables e below (B.U.setTop { g with pc := g.pc + 3, stack := v.toList ++ rest }) target → Steps p.tables e below (T.setTop g) target) ∨
    (∃ (q : Addr) (vm₁ : Vm) (B : Pt), s.WarmedH vm₁ ∧ Stand p l e R s m args below meth c B.U B.locs B.cells B.slots ∧ PostX ⟨T.setVm vm₁, locs, cells, slots⟩ (Value.ref b :: argsL).toArray q B ∧
      Steps p.tables e below (T.setTop g) ((B.U.setTop { g with stack := rest }).pushFrame (.throwing q))) := by
  obtain ⟨mk, methM, hnamed, hmethM, hstM, habM⟩ := Cond.instanceMethod_spec hinst
  obtain ⟨methM', cM, hmethM', -, -, -, -, -, -, hsigM⟩ := Cond.code_spec hnamed hcode
  cases hmethM.symm.trans hmethM'
  obtain ⟨c2, r2, m2, q1, q2, q3, q4, kP, hkP, hkPi⟩ := Cond.selects_spec hsel
  cases hcls.symm.trans q1
  cases (State.methodFound?_of_named hnamed hy).symm.trans q2
  cases hnamed.symm.trans q3
  have hselP : selectMethod e.platform s.vm cellB.cls mk = .method mk := by rw [Launch.admits_selectMethod X.admits]; exact q4
  obtain ⟨vm₁, X₁, hstep₁⟩ := X.invokevirtual hexec hown hlink hnamed hmethM hstM hkP hkPi hy (a := b) (cell := cellB) hcell
    (fun z h => by rw [h] at hobj; cases hobj) hselP hmethM habM hkP hkPi (g := g) hg (argsL := argsL) (rest := rest) (hlen _ hsigM) hstack hdg
  rcases hK m meth c ⟨T.setVm vm₁, locs, cells, slots⟩ { g with stack := rest } (.invokevirtual index) mk (Value.ref b :: argsL).toArray X₁ hg hsize hdg hW (X₁.named hnamed) (hpre vm₁ X₁.warmed) with ⟨v, B, X', hpost, hsteps⟩ | ⟨q, B, X', hpost, hsteps⟩
  · exact Or.inl ⟨v, vm₁, B, X₁.warmed, X', hpost, fun target h => hstep₁ _ fun acts => by rw [doInvoke_state]; exact hsteps.trans h⟩
  · exact Or.inr ⟨q, vm₁, B, X₁.warmed, X', hpost, hstep₁ _ fun acts => by rw [doInvoke_state]; exact hsteps⟩
theorem vx_callS (X : Stand p l e R s m args below meth c T locs cells slots) (hexec : p.tables.exec = Jvm.exec) {own : String} {index : Nat} {y : MethodName} {bytes : ByteArray} {maxL : Nat} {ret : Option FieldType}
    (hown : s.vm.findClass own = some m.cls) (hlink : (Cond.methodLink own index y).before args s = true) (hstat : (Cond.static y).before args s = true) (hinit : (Cond.initialized y.cls).before args s = true)
    (hcode : (Cond.code y bytes maxL ret).before args s = true) (hy : y.cls ≠ "java/lang/invoke/MethodHandle" ∧ y.cls ≠ "java/lang/invoke/VarHandle")
    {W9 : Nat} {Pre : Pt → Array Value → Prop} {Post : Pt → Array Value → Option Value → Pt → Prop} {PostX : Pt → Array Value → Addr → Pt → Prop} (hK : vx_Back l R p e below s args y 3 W9 Pre Post PostX)
    {g : JFrame} (hg : g.method = m) (hsize : g.locals.size = c.maxLocals) {argsL rest : List Value} (hlen : ∀ sig, parseMethodDescriptor y.desc = some sig → argsL.length = sig.parameters.length)
    (hstack : g.stack = argsL.reverse ++ rest) (hW : 2 * g.monitorRoom + (rest.map fun v => v.category).sum ≤ W9) (hdg : decode c.code g.pc = .ok (.invokestatic index, 3))
    (hpre : ∀ vm₁, s.WarmedH vm₁ → Pre ⟨T.setVm vm₁, locs, cells, slots⟩ argsL.toArray) :
    (∃ (v : Option Value) (vm₁ : Vm) (B : Pt), s.WarmedH vm₁ ∧ Stand p l e R s m args below meth c B.U B.locs B.cells B.slots ∧ Post ⟨T.setVm vm₁, locs, cells, slots⟩ argsL.toArray v B ∧
      ∀ target, Steps p.tables e below (B.U.setTop { g with pc := g.pc + 3, stack := v.toList ++ rest }) target → Steps p.tables e below (T.setTop g) target) ∨
    (∃ (q : Addr) (vm₁ : Vm) (B : Pt), s.WarmedH vm₁ ∧ Stand p l e R s m args below meth c B.U B.locs B.cells B.slots ∧ PostX ⟨T.setVm vm₁, locs, cells, slots⟩ argsL.toArray q B ∧
      Steps p.tables e below (T.setTop g) ((B.U.setTop { g with stack := rest }).pushFrame (.throwing q))) := by
  obtain ⟨mk, hnamed⟩ := Cond.code_named hcode
  obtain ⟨methM, cM, hmethM, -, -, -, -, -, -, hsigM⟩ := Cond.code_spec hnamed hcode
  have hstatic : methM.isStatic = true := Cond.static_spec hnamed hmethM hstat
  obtain ⟨kP, hkP, -⟩ := className_of_methodNamed hnamed
  have hinitP : kP.init = .initialized := Cond.initialized_spec (findClass_of_methodNamed hnamed) hkP hinit
  obtain ⟨vm₁, X₁, hstep₁⟩ := X.invokestatic hexec hown hlink hnamed hmethM hstatic hkP hinitP hy (g := g) hg (argsL := argsL) (rest := rest) (hlen _ hsigM) hstack hdg
  rcases hK m meth c ⟨T.setVm vm₁, locs, cells, slots⟩ { g with stack := rest } (.invokestatic index) mk argsL.toArray X₁ hg hsize hdg hW (X₁.named hnamed) (hpre vm₁ X₁.warmed) with ⟨v, B, X', hpost, hsteps⟩ | ⟨q, B, X', hpost, hsteps⟩
  · exact Or.inl ⟨v, vm₁, B, X₁.warmed, X', hpost, fun target h => hstep₁ _ fun acts => by rw [doInvoke_state]; exact hsteps.trans h⟩
  · exact Or.inr ⟨q, vm₁, B, X₁.warmed, X', hpost, hstep₁ _ fun acts => by rw [doInvoke_state]; exact hsteps⟩
end Calls
theorem vx_cls {s : State} {T : State} {vm₁ : Vm} {E : String} {k : ClassId} (hW : s.WarmedH vm₁) (h : (T.setVm vm₁).vm.findClass E = some k) : s.vm.findClass E = some k := by
  have h1 : vm₁.findClass E = some k := h
  rw [hW.alike.findClass] at h1
  exact h1
/-- the method's frame g, with q thrown over it -/
def vx_W (p : Program) (l : Launch) (e : Env) (R : Room) (s : State) (m : MethodId) (args : Array Value) (below : List Frame) (meth : Method) (c : Code) (H : Heap) (locs : List Loc) (cells slots : Nat) (Q : State → Prop) (g : JFrame) (q : Addr) : Prop :=
  ∀ T : State, T.heap = H → Stand p l e R s m args below meth c T locs cells slots → ∃ t, Steps p.tables e below ((T.setTop g).pushFrame (.throwing q)) t ∧ Q t
def vx_Run (p : Program) (l : Launch) (e : Env) (R : Room) (s : State) (m : MethodId) (args : Array Value) (below : List Frame) (meth : Method) (c : Code) (H : Heap) (locs : List Loc) (cells slots mc ms : Nat) (g : JFrame) (rest : List Value) (Qa : State → Outcome → State → Prop) (XC : String → State → State → Prop) (free : Addr → Prop) : Prop :=
  ∀ T : State, T.heap = H → Stand p l e R s m args below meth c T locs cells slots →
    (∃ (v : Option Value) (st₀ t T' : State) (L : List Loc), st₀.heap = H ∧ Stand p l e R s m args below meth c T' (locs ++ L) (cells + mc) (slots + ms) ∧ (∀ q ∈ L, free q.base) ∧ T'.heap = t.heap ∧ T'.vm = t.vm ∧ Qa st₀ (.returned v) t ∧
      Goes p e below T g T' { g with pc := g.pc + 3, stack := v.toList ++ rest }) ∨
    (∃ (q : Addr) (st₀ t T' : State) (L : List Loc) (E : String) (ce : Cell), st₀.heap = H ∧ Stand p l e R s m args below meth c T' (locs ++ L) (cells + mc) (slots + ms) ∧ (∀ z ∈ L, free z.base) ∧ T'.heap = t.heap ∧ T'.vm = t.vm ∧ XC E st₀ t ∧ t.heap[q]? = some ce ∧ ce.vm = .none ∧ s.vm.findClass E = some ce.cls ∧
      Steps p.tables e below (T.setTop g) ((T'.setTop { g with stack := rest }).pushFrame (.throwing q)))
def vx_X {S : Type} (px : S → Prop) (B : String → S → State → Prop) (A : Nat → Prop) : String → State → State → Prop := fun E st t => ∃ u : S, px u ∧ B E u t ∧ va_F A st t
section Runs
variable {p : Program} {l : Launch} {e : Env} {R : Room} {s : State} {m : MethodId} {args : Array Value} {below : List Frame} {meth : Method} {c : Code} {H : Heap} {locs : List Loc} {cells slots : Nat}
variable {y : MethodName} {bytes cc : ByteArray} {maxL nL mc ms n index : Nat} {ret : Option FieldType} {ws : List Cond} {rm : Room} {Pc : Array Value → State → Prop} {Qc : Array Value → State → Outcome → State → Prop} {XC : String → State → State → Prop} {free : Addr → Prop} {Ts : List Cond} {own C : String} {b : Addr} {As rest : List Value} {g : JFrame}
theorem vx_callBack (cb : CallB R s args own index y bytes maxL ret ws rm mc ms n) (hM : vx_Met l y ws rm Pc Qc XC mc ms free) (hbl : FrameBlind Pc) : vx_Back l R p e below s args y 3 8 (PreOf R mc ms Pc) (PostOf Qc mc ms free) (vx_Post XC mc ms free) := by
  obtain ⟨hrc, hrs, hfr, hlo, hws, hcw, -, hini, -⟩ := cb
  exact vx_back (bytes := bytes) (maxL := maxL) (ret := ret) hM hbl hrc hrs hfr hlo hws hcw (fun a' U hW => word_at hW (Or.inl (by first | rfl | simp [Cond.onTables, Cond.keeps, Cond.steady])) hini)
theorem vx_runV (S : CallFix p m c cc nL s args Ts own) (hM : vx_Met l y ws rm Pc Qc XC mc ms free) (cw : CallW R s args own C index y bytes maxL ret ws rm mc ms n) (hp : PreV s H C b Pc As)
    (hg : g.method = m) (hn : As.length = n) (hsize : g.locals.size = nL) (hstack : g.stack = As.reverse ++ .ref b :: rest) (hW : 2 * g.monitorRoom + (rest.map fun v => v.category).sum ≤ 8) (hdg : decode cc g.pc = .ok (.invokevirtual index, 3)) (hf : cells + mc ≤ R.cells ∧ slots + ms ≤ R.slots) :
    vx_Run p l e R s m args below meth c H locs cells slots mc ms g rest (Qc (Value.ref b :: As).toArray) XC free := by
  have hK : vx_Back l R p e below s args y 3 8 (PreOf R mc ms Pc) (PostOf Qc mc ms free) (vx_Post XC mc ms free) := vx_callBack cw.1 hM hp.1
  obtain ⟨⟨-, -, -, -, -, -, hcode, -, hy, hlen, hl⟩, hin, hse⟩ := cw
  obtain ⟨hx, hb, hml, ho, -⟩ := S
  obtain ⟨-, ⟨cellB, hcB, hoB, hclB⟩, hPc⟩ := hp
  intro T hT X
  rcases vx_callV X hx (C := C) (bytes := bytes) (maxL := maxL) (ret := ret) ho hl hin hse hcode hy hK (by rw [hT]; exact hcB) hoB hclB hg (hsize.trans hml.symm) (argsL := As) (rest := rest) (fun sig h => hn.trans (hlen sig h)) hstack hW (by rw [hb]; exact hdg)
    (fun vm₁ hW₁ => ⟨hf.1, hf.2, hPc (T.setVm vm₁) hT hW₁⟩) with ⟨v, vm₁, ⟨U', l2, c2, s2⟩, hW₁, X', ⟨g', mk, t, L, e1, e2, hq, h1, hL, h2, h3⟩, st⟩ | ⟨q, vm₁, ⟨U', l2, c2, s2⟩, hW₁, X', ⟨g', mk, t, L, E, ce, e1, e2, hq, hce, hcv, hcl, h1, hL, h2, h3⟩, st⟩
  · dsimp only [Pt.U, Pt.locs, Pt.cells, Pt.slots] at X' e1 e2 h1 h2 h3 st
    subst h1; subst h2; subst h3
    exact Or.inl ⟨v, (T.setVm vm₁).calling g' mk (Value.ref b :: As).toArray, t, U', L, hT, X', hL, e1, e2, hq, st⟩
  · dsimp only [Pt.U, Pt.locs, Pt.cells, Pt.slots] at X' e1 e2 h1 h2 h3 st hcl
    subst h1; subst h2; subst h3
    exact Or.inr ⟨q, (T.setVm vm₁).calling g' mk (Value.ref b :: As).toArray, t, U', L, E, ce, hT, X', hL, e1, e2, hq, hce, hcv, vx_cls hW₁ hcl, st⟩
theorem vx_runS (S : CallFix p m c cc nL s args Ts own) (hM : vx_Met l y ws rm Pc Qc XC mc ms free) (cw : CallB R s args own index y bytes maxL ret ws rm mc ms n ∧ (Cond.static y).before args s = true) (hp : PreS s H Pc As)
    (hg : g.method = m) (hn : As.length = n) (hsize : g.locals.size = nL) (hstack : g.stack = As.reverse ++ rest) (hW : 2 * g.monitorRoom + (rest.map fun v => v.category).sum ≤ 8) (hdg : decode cc g.pc = .ok (.invokestatic index, 3)) (hf : cells + mc ≤ R.cells ∧ slots + ms ≤ R.slots) :
    vx_Run p l e R s m args below meth c H locs cells slots mc ms g rest (Qc As.toArray) XC free := by
  have hK : vx_Back l R p e below s args y 3 8 (PreOf R mc ms Pc) (PostOf Qc mc ms free) (vx_Post XC mc ms free) := vx_callBack cw.1 hM hp.1
  obtain ⟨⟨-, -, -, -, -, -, hcode, hini, hy, hlen, hl⟩, hstt⟩ := cw
  obtain ⟨hx, hb, hml, ho, -⟩ := S
  intro T hT X
  rcases vx_callS X hx (bytes := bytes) (maxL := maxL) (ret := ret) ho hl hstt hini hcode hy hK hg (hsize.trans hml.symm) (argsL := As) (rest := rest) (fun sig h => hn.trans (hlen sig h)) hstack hW (by rw [hb]; exact hdg)
    (fun vm₁ hW₁ => ⟨hf.1, hf.2, hp.2 (T.setVm vm₁) hT hW₁⟩) with ⟨v, vm₁, ⟨U', l2, c2, s2⟩, hW₁, X', ⟨g', mk, t, L, e1, e2, hq, h1, hL, h2, h3⟩, st⟩ | ⟨q, vm₁, ⟨U', l2, c2, s2⟩, hW₁, X', ⟨g', mk, t, L, E, ce, e1, e2, hq, hce, hcv, hcl, h1, hL, h2, h3⟩, st⟩
  · dsimp only [Pt.U, Pt.locs, Pt.cells, Pt.slots] at X' e1 e2 h1 h2 h3 st
    subst h1; subst h2; subst h3
    exact Or.inl ⟨v, (T.setVm vm₁).calling g' mk As.toArray, t, U', L, hT, X', hL, e1, e2, hq, st⟩
  · dsimp only [Pt.U, Pt.locs, Pt.cells, Pt.slots] at X' e1 e2 h1 h2 h3 st hcl
    subst h1; subst h2; subst h3
    exact Or.inr ⟨q, (T.setVm vm₁).calling g' mk As.toArray, t, U', L, E, ce, hT, X', hL, e1, e2, hq, hce, hcv, vx_cls hW₁ hcl, st⟩
end Runs
section Rows
variable {p : Program} {l : Launch} {e : Env} {R : Room} {s : State} {m : MethodId} {args : Array Value} {below : List Frame} {meth : Method} {c : Code} {H : Heap} {locs : List Loc} {cells slots : Nat} {Q : State → Prop}
variable {mc ms : Nat} {free : Addr → Prop} {A0 A1 : Nat → Prop} {H0 : Heap} {a : Array Value} {pc : Nat} {ls : Array Slot} {st0 rest : List Value}
theorem vx_keep {st₀ t T' : State} {L : List Loc} (h0 : st₀.heap = H) (e1 : T'.heap = t.heap) (hS : va_S A0 H0 H locs) (hA : ∀ q, q < H.size → A1 q → A0 q) (hf : ∀ q, free q → A0 q) (hL : ∀ q ∈ L, free q.base) (hF : va_F A1 st₀ t) :
    H.size ≤ T'.heap.size ∧ (∀ q : Nat, q < H.size → ¬ A1 q → T'.heap[q]? = H[q]?) ∧ va_S A0 H0 T'.heap (locs ++ L) := by
  obtain ⟨hz, hk⟩ := hF
  rw [h0] at hz hk
  exact ⟨by rw [e1]; exact hz, fun q h1 h2 => by rw [e1]; exact hk q h1 h2,
    ⟨Nat.le_trans hS.1 (by rw [e1]; exact hz), fun q h1 h2 => by rw [e1, hk q (Nat.lt_of_lt_of_le h1 hS.1) (fun z => h2 (hA q (Nat.lt_of_lt_of_le h1 hS.1) z))]; exact hS.2.1 q h1 h2, fun q hq => by
      rcases List.mem_append.mp hq with h | h
      · exact hS.2.2 q h
      · exact hf _ (hL q h)⟩⟩
theorem vx_calli {S SX : Type} {post : Int32 → S → Prop} {px : SX → Prop} {B : S → State → Prop} {BX : String → SX → State → Prop} {AX : Nat → Prop} (hr : vx_Run p l e R s m args below meth c H locs cells slots mc ms (F0 m pc ls st0) rest (va_Qi post B A1 a) (vx_X px BX AX) free) (hS : va_S A0 H0 H locs) (hA : ∀ q, q < H.size → A1 q → A0 q) (hf : ∀ q, free q → A0 q) (hAX : ∀ q, q < H.size → AX q → A0 q)
    (kx : ∀ (E : String) (ce : Cell) (q9 : Addr) (u : SX) (t : State) (H1 : Heap) (locs1 : List Loc), t.heap = H1 → s.vm.Alike t.vm → px u → BX E u t → H.size ≤ H1.size → (∀ q : Nat, q < H.size → ¬ AX q → H1[q]? = H[q]?) → va_S A0 H0 H1 locs1 → H1[q9]? = some ce → ce.vm = .none → s.vm.findClass E = some ce.cls → vx_W p l e R s m args below meth c H1 locs1 (cells + mc) (slots + ms) Q (F0 m pc ls rest) q9)
    (kk : ∀ (r : Int32) (u : S) (t : State) (H1 : Heap) (locs1 : List Loc), t.heap = H1 → s.vm.Alike t.vm → post r u → B u t → H.size ≤ H1.size → (∀ q : Nat, q < H.size → ¬ A1 q → H1[q]? = H[q]?) → va_S A0 H0 H1 locs1 → W p l e R s m args below meth c H1 locs1 (cells + mc) (slots + ms) Q (F0 m (pc + 3) ls (.int r :: rest))) : W p l e R s m args below meth c H locs cells slots Q (F0 m pc ls st0) := by
  intro T hT X
  rcases hr T hT X with ⟨v, st₀, t, T', L, h0, X', hL, e1, e2, ⟨⟨r, u, hv, hp, hb⟩, hF⟩, st⟩ | ⟨q, st₀, t, T', L, E, ce, h0, X', hL, e1, e2, ⟨u, hp, hb, hF⟩, hce, hcv, hcl, st⟩
  · cases hv
    obtain ⟨k1, k2, k3⟩ := vx_keep h0 e1 hS hA hf hL hF
    obtain ⟨t2, a1, b1⟩ := kk r u t T'.heap (locs ++ L) e1.symm (by rw [← e2]; exact X'.warmed.alike) hp hb k1 k2 k3 T' rfl X'
    exact ⟨t2, st t2 a1, b1⟩
  · obtain ⟨k1, k2, k3⟩ := vx_keep h0 e1 hS hAX hf hL hF
    obtain ⟨t2, a1, b1⟩ := kx E ce q u t T'.heap (locs ++ L) e1.symm (by rw [← e2]; exact X'.warmed.alike) hp hb k1 k2 k3 (by rw [e1]; exact hce) hcv hcl T' rfl X'
    exact ⟨t2, st.trans a1, b1⟩
theorem vx_calll {S SX : Type} {post : Int64 → S → Prop} {px : SX → Prop} {B : S → State → Prop} {BX : String → SX → State → Prop} {AX : Nat → Prop} (hr : vx_Run p l e R s m args below meth c H locs cells slots mc ms (F0 m pc ls st0) rest (va_Ql post B A1 a) (vx_X px BX AX) free) (hS : va_S A0 H0 H locs) (hA : ∀ q, q < H.size → A1 q → A0 q) (hf : ∀ q, free q → A0 q) (hAX : ∀ q, q < H.size → AX q → A0 q)
    (kx : ∀ (E : String) (ce : Cell) (q9 : Addr) (u : SX) (t : State) (H1 : Heap) (locs1 : List Loc), t.heap = H1 → s.vm.Alike t.vm → px u → BX E u t → H.size ≤ H1.size → (∀ q : Nat, q < H.size → ¬ AX q → H1[q]? = H[q]?) → va_S A0 H0 H1 locs1 → H1[q9]? = some ce → ce.vm = .none → s.vm.findClass E = some ce.cls → vx_W p l e R s m args below meth c H1 locs1 (cells + mc) (slots + ms) Q (F0 m pc ls rest) q9)
    (kk : ∀ (r : Int64) (u : S) (t : State) (H1 : Heap) (locs1 : List Loc), t.heap = H1 → s.vm.Alike t.vm → post r u → B u t → H.size ≤ H1.size → (∀ q : Nat, q < H.size → ¬ A1 q → H1[q]? = H[q]?) → va_S A0 H0 H1 locs1 → W p l e R s m args below meth c H1 locs1 (cells + mc) (slots + ms) Q (F0 m (pc + 3) ls (.long r :: rest))) : W p l e R s m args below meth c H locs cells slots Q (F0 m pc ls st0) := by
  intro T hT X
  rcases hr T hT X with ⟨v, st₀, t, T', L, h0, X', hL, e1, e2, ⟨⟨r, u, hv, hp, hb⟩, hF⟩, st⟩ | ⟨q, st₀, t, T', L, E, ce, h0, X', hL, e1, e2, ⟨u, hp, hb, hF⟩, hce, hcv, hcl, st⟩
  · cases hv
    obtain ⟨k1, k2, k3⟩ := vx_keep h0 e1 hS hA hf hL hF
    obtain ⟨t2, a1, b1⟩ := kk r u t T'.heap (locs ++ L) e1.symm (by rw [← e2]; exact X'.warmed.alike) hp hb k1 k2 k3 T' rfl X'
    exact ⟨t2, st t2 a1, b1⟩
  · obtain ⟨k1, k2, k3⟩ := vx_keep h0 e1 hS hAX hf hL hF
    obtain ⟨t2, a1, b1⟩ := kx E ce q u t T'.heap (locs ++ L) e1.symm (by rw [← e2]; exact X'.warmed.alike) hp hb k1 k2 k3 (by rw [e1]; exact hce) hcv hcl T' rfl X'
    exact ⟨t2, st.trans a1, b1⟩
theorem vx_callf {S SX : Type} {post : UInt32 → S → Prop} {px : SX → Prop} {B : S → State → Prop} {BX : String → SX → State → Prop} {AX : Nat → Prop} (hr : vx_Run p l e R s m args below meth c H locs cells slots mc ms (F0 m pc ls st0) rest (va_Qf post B A1 a) (vx_X px BX AX) free) (hS : va_S A0 H0 H locs) (hA : ∀ q, q < H.size → A1 q → A0 q) (hf : ∀ q, free q → A0 q) (hAX : ∀ q, q < H.size → AX q → A0 q)
    (kx : ∀ (E : String) (ce : Cell) (q9 : Addr) (u : SX) (t : State) (H1 : Heap) (locs1 : List Loc), t.heap = H1 → s.vm.Alike t.vm → px u → BX E u t → H.size ≤ H1.size → (∀ q : Nat, q < H.size → ¬ AX q → H1[q]? = H[q]?) → va_S A0 H0 H1 locs1 → H1[q9]? = some ce → ce.vm = .none → s.vm.findClass E = some ce.cls → vx_W p l e R s m args below meth c H1 locs1 (cells + mc) (slots + ms) Q (F0 m pc ls rest) q9)
    (kk : ∀ (r : UInt32) (u : S) (t : State) (H1 : Heap) (locs1 : List Loc), t.heap = H1 → s.vm.Alike t.vm → post r u → B u t → H.size ≤ H1.size → (∀ q : Nat, q < H.size → ¬ A1 q → H1[q]? = H[q]?) → va_S A0 H0 H1 locs1 → W p l e R s m args below meth c H1 locs1 (cells + mc) (slots + ms) Q (F0 m (pc + 3) ls (.float r :: rest))) : W p l e R s m args below meth c H locs cells slots Q (F0 m pc ls st0) := by
  intro T hT X
  rcases hr T hT X with ⟨v, st₀, t, T', L, h0, X', hL, e1, e2, ⟨⟨r, u, hv, hp, hb⟩, hF⟩, st⟩ | ⟨q, st₀, t, T', L, E, ce, h0, X', hL, e1, e2, ⟨u, hp, hb, hF⟩, hce, hcv, hcl, st⟩
  · cases hv
    obtain ⟨k1, k2, k3⟩ := vx_keep h0 e1 hS hA hf hL hF
    obtain ⟨t2, a1, b1⟩ := kk r u t T'.heap (locs ++ L) e1.symm (by rw [← e2]; exact X'.warmed.alike) hp hb k1 k2 k3 T' rfl X'
    exact ⟨t2, st t2 a1, b1⟩
  · obtain ⟨k1, k2, k3⟩ := vx_keep h0 e1 hS hAX hf hL hF
    obtain ⟨t2, a1, b1⟩ := kx E ce q u t T'.heap (locs ++ L) e1.symm (by rw [← e2]; exact X'.warmed.alike) hp hb k1 k2 k3 (by rw [e1]; exact hce) hcv hcl T' rfl X'
    exact ⟨t2, st.trans a1, b1⟩
theorem vx_calld {S SX : Type} {post : UInt64 → S → Prop} {px : SX → Prop} {B : S → State → Prop} {BX : String → SX → State → Prop} {AX : Nat → Prop} (hr : vx_Run p l e R s m args below meth c H locs cells slots mc ms (F0 m pc ls st0) rest (va_Qd post B A1 a) (vx_X px BX AX) free) (hS : va_S A0 H0 H locs) (hA : ∀ q, q < H.size → A1 q → A0 q) (hf : ∀ q, free q → A0 q) (hAX : ∀ q, q < H.size → AX q → A0 q)
    (kx : ∀ (E : String) (ce : Cell) (q9 : Addr) (u : SX) (t : State) (H1 : Heap) (locs1 : List Loc), t.heap = H1 → s.vm.Alike t.vm → px u → BX E u t → H.size ≤ H1.size → (∀ q : Nat, q < H.size → ¬ AX q → H1[q]? = H[q]?) → va_S A0 H0 H1 locs1 → H1[q9]? = some ce → ce.vm = .none → s.vm.findClass E = some ce.cls → vx_W p l e R s m args below meth c H1 locs1 (cells + mc) (slots + ms) Q (F0 m pc ls rest) q9)
    (kk : ∀ (r : UInt64) (u : S) (t : State) (H1 : Heap) (locs1 : List Loc), t.heap = H1 → s.vm.Alike t.vm → post r u → B u t → H.size ≤ H1.size → (∀ q : Nat, q < H.size → ¬ A1 q → H1[q]? = H[q]?) → va_S A0 H0 H1 locs1 → W p l e R s m args below meth c H1 locs1 (cells + mc) (slots + ms) Q (F0 m (pc + 3) ls (.double r :: rest))) : W p l e R s m args below meth c H locs cells slots Q (F0 m pc ls st0) := by
  intro T hT X
  rcases hr T hT X with ⟨v, st₀, t, T', L, h0, X', hL, e1, e2, ⟨⟨r, u, hv, hp, hb⟩, hF⟩, st⟩ | ⟨q, st₀, t, T', L, E, ce, h0, X', hL, e1, e2, ⟨u, hp, hb, hF⟩, hce, hcv, hcl, st⟩
  · cases hv
    obtain ⟨k1, k2, k3⟩ := vx_keep h0 e1 hS hA hf hL hF
    obtain ⟨t2, a1, b1⟩ := kk r u t T'.heap (locs ++ L) e1.symm (by rw [← e2]; exact X'.warmed.alike) hp hb k1 k2 k3 T' rfl X'
    exact ⟨t2, st t2 a1, b1⟩
  · obtain ⟨k1, k2, k3⟩ := vx_keep h0 e1 hS hAX hf hL hF
    obtain ⟨t2, a1, b1⟩ := kx E ce q u t T'.heap (locs ++ L) e1.symm (by rw [← e2]; exact X'.warmed.alike) hp hb k1 k2 k3 (by rw [e1]; exact hce) hcv hcl T' rfl X'
    exact ⟨t2, st.trans a1, b1⟩
theorem vx_callv {S SX : Type} {post : S → Prop} {px : SX → Prop} {B : S → State → Prop} {BX : String → SX → State → Prop} {AX : Nat → Prop} (hr : vx_Run p l e R s m args below meth c H locs cells slots mc ms (F0 m pc ls st0) rest (va_Qv post B A1 a) (vx_X px BX AX) free) (hS : va_S A0 H0 H locs) (hA : ∀ q, q < H.size → A1 q → A0 q) (hf : ∀ q, free q → A0 q) (hAX : ∀ q, q < H.size → AX q → A0 q)
    (kx : ∀ (E : String) (ce : Cell) (q9 : Addr) (u : SX) (t : State) (H1 : Heap) (locs1 : List Loc), t.heap = H1 → s.vm.Alike t.vm → px u → BX E u t → H.size ≤ H1.size → (∀ q : Nat, q < H.size → ¬ AX q → H1[q]? = H[q]?) → va_S A0 H0 H1 locs1 → H1[q9]? = some ce → ce.vm = .none → s.vm.findClass E = some ce.cls → vx_W p l e R s m args below meth c H1 locs1 (cells + mc) (slots + ms) Q (F0 m pc ls rest) q9)
    (kk : ∀ (u : S) (t : State) (H1 : Heap) (locs1 : List Loc), t.heap = H1 → s.vm.Alike t.vm → post u → B u t → H.size ≤ H1.size → (∀ q : Nat, q < H.size → ¬ A1 q → H1[q]? = H[q]?) → va_S A0 H0 H1 locs1 → W p l e R s m args below meth c H1 locs1 (cells + mc) (slots + ms) Q (F0 m (pc + 3) ls (rest))) : W p l e R s m args below meth c H locs cells slots Q (F0 m pc ls st0) := by
  intro T hT X
  rcases hr T hT X with ⟨v, st₀, t, T', L, h0, X', hL, e1, e2, ⟨⟨u, hv, hp, hb⟩, hF⟩, st⟩ | ⟨q, st₀, t, T', L, E, ce, h0, X', hL, e1, e2, ⟨u, hp, hb, hF⟩, hce, hcv, hcl, st⟩
  · cases hv
    obtain ⟨k1, k2, k3⟩ := vx_keep h0 e1 hS hA hf hL hF
    obtain ⟨t2, a1, b1⟩ := kk u t T'.heap (locs ++ L) e1.symm (by rw [← e2]; exact X'.warmed.alike) hp hb k1 k2 k3 T' rfl X'
    exact ⟨t2, st t2 a1, b1⟩
  · obtain ⟨k1, k2, k3⟩ := vx_keep h0 e1 hS hAX hf hL hF
    obtain ⟨t2, a1, b1⟩ := kx E ce q u t T'.heap (locs ++ L) e1.symm (by rw [← e2]; exact X'.warmed.alike) hp hb k1 k2 k3 (by rw [e1]; exact hce) hcv hcl T' rfl X'
    exact ⟨t2, st.trans a1, b1⟩
/-- caught by the row x of this method's table; the rows ahead don't take it -/
theorem vx_catch {own name : String} {E : String} {ce : Cell} {q : Addr} (hown : s.vm.findClass own = some m.cls) (pre : List ExceptionTableEntry) (x : ExceptionTableEntry) (suf : List ExceptionTableEntry) (hsplit : c.exceptionTable.toList = pre ++ x :: suf)
    (hpass : ∀ z ∈ pre, covers z pc = false ∨ (z.catchType ≠ 0 ∧ ∃ nm : String, (Cond.classLink own z.catchType nm).before args s = true ∧ va_Nc E nm s)) (hx : covers x pc = true) (h0 : x.catchType ≠ 0)
    (hlink : (Cond.classLink own x.catchType name).before args s = true) (hcast : (Cond.castable E name).before args s = true) (hcell : H[q]? = some ce) (hv : ce.vm = .none) (hcl : s.vm.findClass E = some ce.cls)
    (kk : W p l e R s m args below meth c H locs cells slots Q (F0 m x.handlerPc ls [.ref q])) : vx_W p l e R s m args below meth c H locs cells slots Q (F0 m pc ls rest) q := by
  intro T hT X
  have hpl : e.platform.magicAccessors = ({} : Platform).magicAccessors := by rw [X.admits.platform]
  obtain ⟨c3, c4, hc3, hc4, hasg⟩ := Cond.castable_spec hcast
  cases Option.some.inj (hc3.symm.trans hcl)
  obtain ⟨c5, hc5, hcl5⟩ := Cond.classLink_spec hown hlink e.platform hpl
  cases Option.some.inj (hc4.symm.trans hc5)
  obtain ⟨vm', X', st⟩ := X.thenCaughtThrough q (g := F0 m pc ls rest) rfl (Steps.refl _) (by rw [hT]; exact hcell) (by rw [hv]; rfl) (by obtain ⟨k9, h9, -⟩ := Vm.findClass_spec hcl; exact ⟨k9, h9⟩) pre x suf hsplit
    (fun z hz => by
      rcases hpass z hz with h | ⟨hz0, nm, hl1, hn1⟩
      · exact Or.inl h
      · obtain ⟨c6, hc6, hcl6⟩ := Cond.classLink_spec hown hl1 e.platform hpl
        obtain ⟨a8, b8, h1, h2, h3⟩ := hn1
        cases Option.some.inj (h1.symm.trans hcl)
        cases Option.some.inj (h2.symm.trans hc6)
        exact Or.inr ⟨hz0, _, hcl6, h3⟩) hx (Or.inr ⟨h0, c4, hcl5, hasg⟩)
  obtain ⟨t, a1, b1⟩ := kk (T.setVm vm') hT X'
  exact ⟨t, st.trans a1, b1⟩
end Rows
section Ends
variable {p : Program} {l : Launch} {e : Env} {R : Room} {s : State} {m : MethodId} {args : Array Value} {below : List Frame} {meth : Method} {c : Code} {H : Heap} {locs : List Loc} {cells slots : Nat} {Q : State → Prop}
variable {mc ms : Nat} {free : Addr → Prop} {A0 A1 : Nat → Prop} {H0 : Heap} {a : Array Value} {ls : Array Slot} {st0 rest : List Value}
variable {Qc : Array Value → State → Outcome → State → Prop} {XC : String → State → State → Prop}
/-- what a body that may throw owes at its end -/
def vx_MQ (below : List Frame) (Qc : Array Value → State → Outcome → State → Prop) (XC : String → State → State → Prop) (a : Array Value) (s : State) (mc ms : Nat) (free : Addr → Prop) : State → Prop := fun t =>
  ∃ o, t.status = .running ∧ Ended t below o ∧ vx_Q Qc XC mc ms free a s o t
theorem vx_ret {g : JFrame} {mc ms : Nat} (k : W p l e R s m args below meth c H locs cells slots (MQ below Qc args s mc ms free) g) : W p l e R s m args below meth c H locs cells slots (vx_MQ below Qc XC args s mc ms free) g := by
  intro T hT X
  obtain ⟨t, a1, o, b1, b2, b3, b4⟩ := k T hT X
  exact ⟨t, a1, o, b1, b2, Or.inl ⟨b3, b4⟩⟩
/-- not caught here: it goes on to the caller -/
theorem vx_widen {g : JFrame} {q : Addr} {k n : Nat} (h1 : cells ≤ k) (h2 : slots ≤ n) (kk : vx_W p l e R s m args below meth c H locs k n Q g q) : vx_W p l e R s m args below meth c H locs cells slots Q g q := fun T hT X => kk T hT (stand_widen X h1 h2)
theorem vx_out {pc : Nat} {E : String} {ce : Cell} {q : Addr} {mc ms : Nat} (hout : ∀ x ∈ c.exceptionTable.toList, covers x pc = false) (hlocks : meth.locks = false) (hcell : H[q]? = some ce) (hv : ce.vm = .none) (hcl : s.vm.findClass E = some ce.cls)
    (hx : ∀ t : State, t.heap = H → s.vm.Alike t.vm → XC E s t) (hf : ∀ z ∈ locs, free z.base) (hc : cells ≤ mc) (hs : slots ≤ ms) :
    vx_W p l e R s m args below meth c H locs cells slots (vx_MQ below Qc XC args s mc ms free) (F0 m pc ls rest) q := by
  intro T hT X
  obtain ⟨st1, hrun, hend, hW, hsm⟩ := X.leaveThrown q (g := F0 m pc ls rest) rfl rfl rfl hout hlocks
  have hcell9 : (T.setFrames (.throwing q :: below)).heap[q]? = some ce := by
    show T.heap[q]? = some ce
    rw [hT]; exact hcell
  exact ⟨_, st1, .threw q, hrun, hend, Or.inr ⟨q, rfl, E, ce, locs, hx _ hT hW.alike, hcell9, hv, hcl, hW, hsm.mono hc hs, hf⟩⟩
theorem vx_frame {U : State} {k n : Nat} (h : s.sameButNew ({ U with vm := s.vm } : State) locs k n) : s.heap.size ≤ U.heap.size ∧ ∀ q : Nat, q < s.heap.size → (∀ z ∈ locs, z.base ≠ q) → U.heap[q]? = s.heap[q]? := by
  obtain ⟨-, h2, -, -, -, h6⟩ := h
  refine ⟨h2, fun q hq hz => ?_⟩
  obtain ⟨c9, e1, e2, e3, e4⟩ := h6 q _ (Array.getElem?_eq_getElem hq)
  have hs : c9.slots = (s.heap[q]).slots := Array.ext_getElem? fun i => e4 i fun hm => hz _ hm rfl
  have h9 : c9 = s.heap[q] := by
    rw [hs] at e2
    exact e2
  have e5 : U.heap[q]? = some c9 := e1
  rw [e5, h9, Array.getElem?_eq_getElem hq]
/-- the words of a throw but the four that speak of the heap -/
def vx_no (w : Cond) : Bool := decide (w ≠ .isRef (.static Bundle.tN "UNASSIGNED_STACK" Bundle.steD)) && decide (w ≠ .isRef (.static Bundle.tN "SUPPRESSED_SENTINEL" Bundle.listD)) && decide (w ≠ .laysStatic Bundle.tN "UNASSIGNED_STACK" Bundle.steD) && decide (w ≠ .laysStatic Bundle.tN "SUPPRESSED_SENTINEL" Bundle.listD)
def vx_at0 (own : String) (ic : Nat) (X : String) (names : List String) : List Cond := (Bundle.ownAtoms0 own ic X names).filter vx_no
def vx_atS (own : String) (ic : Nat) (X : String) (names : List String) : List Cond := (Bundle.ownAtoms own ic X names).filter vx_no
/-- a word that the tables alone decide, or a good one -/
def vx_ot (w : Cond) : Bool := w.onTables || goodWord w
theorem vx_ot_at {args a' : Array Value} {s U : State} {w : Cond} (hW : s.WarmedH U.vm) (hvm : s.vm = U.vm) (hg : vx_ot w = true) (h : w.before args s = true) : w.before a' U = true := by
  simp only [vx_ot, Bool.or_eq_true] at hg
  rcases hg with hg | hg
  · exact va_tabs hg hvm h
  · exact word_at hW (good_of_word hg) h
/-- a list's words: the good ones out of the method's own list, the others by premises of their own -/
theorem vx_hat {args : Array Value} {s : State} {L B : List Cond} (h1 : ∀ w ∈ L.filter goodWord, w.before args s = true) (h2 : ∀ w ∈ L.filter (fun w => !goodWord w), w ∈ B) (h3 : ∀ w ∈ B, w.before args s = true) : ∀ w ∈ L, w.before args s = true := by
  intro w hw
  by_cases g : goodWord w = true
  · exact h1 w (List.mem_filter.mpr ⟨hw, g⟩)
  · refine h3 w (h2 w (List.mem_filter.mpr ⟨hw, ?_⟩))
    show (!goodWord w) = true
    cases hgw : goodWord w
    · rfl
    · exact absurd hgw g
theorem vx_c {args : Array Value} {s : State} {w : Cond} {B : List Cond} (h : w.before args s = true) (t : ∀ w ∈ B, w.before args s = true) : ∀ w' ∈ w :: B, w'.before args s = true := fun w' h' => (List.mem_cons.mp h').elim (fun e => by rw [e]; exact h) (t w')
theorem vx_n {args : Array Value} {s : State} : ∀ w ∈ ([] : List Cond), w.before args s = true := fun _ h => nomatch h
theorem vx_own {args : Array Value} {s : State} {L : List Cond} (h1 : ∀ w ∈ L.filter vx_no, w.before args s = true)
    (hU : (Cond.isRef (.static Bundle.tN "UNASSIGNED_STACK" Bundle.steD)).before args s = true) (hN : (Cond.isRef (.static Bundle.tN "SUPPRESSED_SENTINEL" Bundle.listD)).before args s = true)
    (lU : (Cond.laysStatic Bundle.tN "UNASSIGNED_STACK" Bundle.steD).before args s = true) (lN : (Cond.laysStatic Bundle.tN "SUPPRESSED_SENTINEL" Bundle.listD).before args s = true) : ∀ w ∈ L, w.before args s = true := by
  intro w hw
  by_cases e1 : w = .isRef (.static Bundle.tN "UNASSIGNED_STACK" Bundle.steD)
  · rw [e1]; exact hU
  · by_cases e2 : w = .isRef (.static Bundle.tN "SUPPRESSED_SENTINEL" Bundle.listD)
    · rw [e2]; exact hN
    · by_cases e3 : w = .laysStatic Bundle.tN "UNASSIGNED_STACK" Bundle.steD
      · rw [e3]; exact lU
      · by_cases e4 : w = .laysStatic Bundle.tN "SUPPRESSED_SENTINEL" Bundle.listD
        · rw [e4]; exact lN
        · exact h1 w (List.mem_filter.mpr ⟨hw, by unfold vx_no; rw [decide_eq_true e1, decide_eq_true e2, decide_eq_true e3, decide_eq_true e4]; rfl⟩)
/-- where a static field lies, its class's statics cell in H -/
def vx_L (C n d : String) (A : Nat → Prop) (U : State) (H : Heap) : Prop := ∃ (c : ClassId) (k : Class) (i : Nat) (f : Field) (a : Nat) (cell : Cell), U.vm.findClass C = some c ∧ U.fieldFound? C n d = some (c, k, i, f) ∧ f.isStatic = true ∧ k.statics = some a ∧ H[a]? = some cell ∧ cell.vm.isStatics = true ∧ cell.cls = c ∧ f.slot < cell.slots.size ∧ k.staticTypes[f.slot]? = some f.type ∧ ¬ A a
theorem vx_L.moved {C n d : String} {A : Nat → Prop} {u U : State} {H : Heap} (hvm : u.vm.Alike U.vm) (h : vx_L C n d A u H) : vx_L C n d A U H := by
  obtain ⟨c, k, i, f, a, cell, h1, h2, h3, h4, h5, h6, h7, h8, h9, h10⟩ := h
  obtain ⟨k', hi', he⟩ := State.fieldFound?_setVm hvm h2
  exact ⟨c, k', i, f, a, cell, by rw [hvm.findClass]; exact h1, hi', h3, by rw [he]; exact h4, h5, h6, h7, h8, by rw [he]; exact h9, h10⟩
theorem vx_L.kept {C n d : String} {A : Nat → Prop} {U : State} {H H1 : Heap} (h : vx_L C n d A U H) (hq : ∀ a : Nat, a < H.size → ¬ A a → H1[a]? = H[a]?) : vx_L C n d A U H1 := by
  obtain ⟨c, k, i, f, a, cell, h1, h2, h3, h4, h5, h6, h7, h8, h9, h10⟩ := h
  exact ⟨c, k, i, f, a, cell, h1, h2, h3, h4, by rw [hq a (Array.getElem?_eq_some_iff.mp h5).1 h10]; exact h5, h6, h7, h8, h9, h10⟩
theorem vx_L.narrow {C n d : String} {A B : Nat → Prop} {U : State} {H : Heap} (h : vx_L C n d A U H) (hAB : ∀ q, B q → A q) : vx_L C n d B U H := by
  obtain ⟨c, k, i, f, a, cell, h1, h2, h3, h4, h5, h6, h7, h8, h9, h10⟩ := h
  exact ⟨c, k, i, f, a, cell, h1, h2, h3, h4, h5, h6, h7, h8, h9, fun z => h10 (hAB _ z)⟩
theorem vx_L.word {C n d : String} {A : Nat → Prop} {s : State} {args : Array Value} (h : vx_L C n d A s s.heap) : (Cond.laysStatic C n d).before args s = true := by
  obtain ⟨c, k, i, f, a, cell, h1, h2, h3, h4, h5, h6, h7, h8, h9, -⟩ := h
  show (Cond.laysStatic C n d).holds args s none s [] = true
  exact Cond.laysStatic_of h1 h2 h3 h4 h5 h6 h7 h8 h9
/-- .. and what it holds: null or some reference -/
def vx_Zq (C n d : String) (A : Nat → Prop) (U : State) (H : Heap) : Prop := va_Zq C n d A U H ∧ vx_L C n d A U H
theorem vx_Zq.moved {C n d : String} {A : Nat → Prop} {u U : State} {H : Heap} (hvm : u.vm.Alike U.vm) (h : vx_Zq C n d A u H) : vx_Zq C n d A U H := ⟨va_Zq.moved hvm h.1, vx_L.moved hvm h.2⟩
theorem vx_Zq.kept {C n d : String} {A : Nat → Prop} {U : State} {H H1 : Heap} (h : vx_Zq C n d A U H) (hq : ∀ a : Nat, a < H.size → ¬ A a → H1[a]? = H[a]?) : vx_Zq C n d A U H1 := ⟨va_Zq.kept h.1 hq, vx_L.kept h.2 hq⟩
theorem vx_Zq.narrow {C n d : String} {A B : Nat → Prop} {U : State} {H : Heap} (h : vx_Zq C n d A U H) (hAB : ∀ q, B q → A q) : vx_Zq C n d B U H := ⟨va_Zq.narrow h.1 hAB, vx_L.narrow h.2 hAB⟩
theorem vx_Zqof {args : Array Value} {s : State} {C n d : String} {A : Nat → Prop} (hl : (Cond.laysStatic C n d).before args s = true) (hini : (Cond.initialized C).before args s = true) (h : (Cond.isRef (.static C n d)).before args s = true) (hA : ∀ a : Nat, a < s.heap.size → ¬ A a) : vx_Zq C n d A s s.heap := by
  refine ⟨va_Zqof hl hini h hA, ?_⟩
  obtain ⟨c, k, i, f, a, cell, h1, h2, h3, h4, h5, h6, h7, h8, h9⟩ := Cond.laysStatic_spec hl
  exact ⟨c, k, i, f, a, cell, h1, h2, h3, h4, h5, h6, h7, h8, h9, hA a (Array.getElem?_eq_some_iff.mp h5).1⟩
theorem vx_isRef {C n d : String} {v : Value} {A : Nat → Prop} {s : State} {args : Array Value} (h : va_Z C n d v A s s.heap) (hv : v.isRef = true) : (Cond.isRef (.static C n d)).before args s = true := by
  obtain ⟨cf, kf, fi, f, a, cell, h1, h2, h3, h4, h5, h6, h7, -⟩ := h
  have he : (Term.static C n d).eval args s none [] s = some v := by
    simp [Term.eval, State.fieldNamed?, h1, h2, h4, h5, h6, h7]
  simp only [Cond.before, Cond.holds, Cond.value, he]
  cases v <;> simp_all [Value.isRef]
theorem vx_isRefq {C n d : String} {A : Nat → Prop} {s : State} {args : Array Value} (h : va_Zq C n d A s s.heap) : (Cond.isRef (.static C n d)).before args s = true := by
  rcases h with h | ⟨t, h⟩
  · exact vx_isRef h rfl
  · exact vx_isRef h rfl
/-- the same frame, seen from here: as if the method were called anew in this heap -/
theorem vx_rebase {T : State} (X : Stand p l e R s m args below meth c T locs cells slots) {R' : Room} (hf : R'.frames ≤ R.frames) (hl : R'.locals ≤ R.locals) (hc : cells + R'.cells ≤ R.cells) (hs : slots + R'.slots ≤ R.slots) :
    Stand p l e R' ((T.setVm s.vm).setFrames (.invoking m args :: below)) m args below meth c T [] 0 0 := by
  have htop : (T.setVm s.vm).topJava?.isSome := X.here.top
  have hF : ((T.setVm s.vm).setFrames (.invoking m args :: below)).frames = .invoking m args :: below := State.frames_setFrames _ (State.cur_lt_of_top htop)
  obtain ⟨g₀, hg0⟩ := Option.isSome_iff_exists.mp htop
  obtain ⟨r, hr⟩ := State.topJava?_eq_some.mp hg0
  have hl9 : e.platform.stackLimits (T.setVm s.vm).me = e.platform.stackLimits s.me := X.limits
  have hb9 : (T.setVm s.vm).me.stackBytes = s.me.stackBytes := X.bytes
  refine ⟨X.admits, X.cas, X.clock, hF, ?_, X.hears, X.method, X.code, X.here, X.tail, X.warmed, ?_, ?_, ?_⟩
  · have h := X.room
    have hU : ((T.setVm s.vm).setFrames (.invoking m args :: below)).localsInUse = s.localsInUse := by
      rw [State.localsInUse_invoking hF (meth := meth) (c := c) X.method X.code, State.localsInUse_invoking X.frames X.method X.code]
    simp only [State.hasRoom, Bool.and_eq_true, decide_eq_true_eq] at h ⊢
    obtain ⟨⟨⟨⟨h1, h2, h3, h4, h5, h6⟩, h7⟩, h8⟩, h9⟩ := h
    rw [X.frames, List.length_cons] at h2 h3
    have q1 := X.heapSize
    have q2 := X.used
    simp only [hF, hU, List.length_cons, State.stackLimits_setFrames, State.stackBytes_setFrames, hl9, hb9]
    refine ⟨⟨⟨⟨by omega, by omega, by omega, by omega, by omega, h6⟩, ?_⟩, ?_⟩, X.book⟩
    · show T.heap.size + R'.cells ≤ e.platform.maxCells
      omega
    · show T.slotsUsed + R'.slots ≤ e.platform.maxSlots
      omega
  · rw [State.stackLimits_setFrames]; rfl
  · rw [State.stackBytes_setFrames]; rfl
  · refine ⟨?_, Nat.le_refl _, Nat.le_refl _, ?_, ?_, fun a c9 h9 => ⟨c9, h9, rfl, rfl, fun _ _ => rfl⟩⟩
    · obtain ⟨t, ht, -⟩ := State.frames_cons hr
      show T.setVm s.vm = { ((T.setVm s.vm).setFrames (.invoking m args :: below)).setFrames (T.setVm s.vm).frames with heap := T.heap, slotsUsed := T.slotsUsed }
      rw [State.setFrames_setFrames, State.setFrames_self ht]
      rfl
    · show T.slotsUsed = T.slotsUsed + ((T.heap.toList.drop T.heap.size).map (·.slots.size)).sum
      rw [List.drop_eq_nil_of_le (Nat.le_of_eq Array.length_toList)]
      rfl
    · show ((T.heap.toList.drop T.heap.size).map (·.slots.size)).sum ≤ 0
      rw [List.drop_eq_nil_of_le (Nat.le_of_eq Array.length_toList)]
      exact Nat.le_refl _
/-- 'throw new E()': new; dup; invokespecial; athrow -/
theorem vx_throw0 {cc : ByteArray} {pc : Nat} (hexec : p.tables.exec = Jvm.exec) (hb : c.code = cc) (hl : l.stackTraces = false) {own cls : String} {names : List String} {ik ic mc ms : Nat} {A : Nat → Prop}
    (hown : s.vm.findClass own = some m.cls) (hcls : Bundle.fit cls = true) (hnames : ∀ n ∈ names, Bundle.fit n = true)
    (hk : (Cond.classLink own ik cls).before args s = true) (hini : (Cond.initialized cls).before args s = true) (hat : ∀ w ∈ vx_at0 own ic cls names, w.before args s = true)
    (hgood : ∀ w ∈ Cond.classLink own ik cls :: Cond.initialized cls :: vx_at0 own ic cls names, vx_ot w = true)
    (hU : vx_Zq Bundle.tN "UNASSIGNED_STACK" Bundle.steD A s s.heap) (hN : vx_Zq Bundle.tN "SUPPRESSED_SENTINEL" Bundle.listD A s s.heap) (hS : va_S A s.heap H locs) (hsize : ls.size = c.maxLocals)
    (d0 : decode cc pc = .ok (.new ik, 3)) (d3 : decode cc (pc + 3) = .ok (.dup, 1)) (d4 : decode cc (pc + 4) = .ok (.invokespecial ic, 3)) (d7 : decode cc (pc + 7) = .ok (.athrow, 1))
    (hout : ∀ x ∈ c.exceptionTable.toList, covers x (pc + 7) = false)
    (hRframes : names.length + 3 < R.frames) (hRlocals : (rest.map fun v => v.category).sum + (13 * (names.length + 1) + 42) ≤ R.locals) (hRcells : cells + 1 ≤ R.cells) (hRslots : slots + 6 ≤ R.slots) (hlocks : meth.locks = false)
    (hx : ∀ t : State, s.vm.Alike t.vm → H.size ≤ t.heap.size → (∀ q : Nat, q < H.size → t.heap[q]? = H[q]?) → XC cls s t)
    (hf : ∀ z ∈ locs, free z.base) (hc : cells + 1 ≤ mc) (hs : slots + 6 ≤ ms) :
    W p l e R s m args below meth c H locs cells slots (vx_MQ below Qc XC args s mc ms free) (F0 m pc ls rest) := by
  intro T hT X
  have htr : e.platform.stackTraces = false := (show e.platform.stackTraces = l.stackTraces by rw [X.admits.platform]).trans hl
  have Y := vx_rebase X (R' := { frames := R.frames, locals := R.locals, cells := 1, slots := 6 }) (Nat.le_refl _) (Nat.le_refl _) hRcells hRslots
  obtain ⟨s', hA⟩ : ∃ z, z = (T.setVm s.vm).setFrames (.invoking m args :: below) := ⟨_, rfl⟩
  rw [← hA] at Y
  have hvm : s'.vm = s.vm := by rw [hA]; rfl
  have hhp : s'.heap = H := by rw [hA]; exact hT
  have hW0 : s.WarmedH s'.vm := by rw [hvm]; exact State.WarmedH.refl s
  have hat' : ∀ w ∈ vx_at0 own ic cls names, w.before args s' = true := fun w hw => vx_ot_at hW0 hvm.symm (hgood w (List.mem_cons_of_mem _ (List.mem_cons_of_mem _ hw))) (hat w hw)
  have hk' : (Cond.classLink own ik cls).before args s' = true := vx_ot_at hW0 hvm.symm (hgood _ List.mem_cons_self) hk
  have hini' : (Cond.initialized cls).before args s' = true := vx_ot_at hW0 hvm.symm (hgood _ (List.mem_cons_of_mem _ List.mem_cons_self)) hini
  have hU' : vx_Zq Bundle.tN "UNASSIGNED_STACK" Bundle.steD A s' s'.heap := by rw [hhp]; exact vx_Zq.moved hW0.alike (hU.kept hS.2.1)
  have hN' : vx_Zq Bundle.tN "SUPPRESSED_SENTINEL" Bundle.listD A s' s'.heap := by rw [hhp]; exact vx_Zq.moved hW0.alike (hN.kept hS.2.1)
  have h : ∀ w ∈ Bundle.ownAtoms0 own ic cls names, w.before args s' = true := vx_own hat' (vx_isRefq hU'.1) (vx_isRefq hN'.1) hU'.2.word hN'.2.word
  have hown' : s'.vm.findClass own = some m.cls := by rw [hvm]; exact hown
  have hins : (Cond.instantiable cls 6).before args s' = true := h _ (by simp [Bundle.ownAtoms0])
  obtain ⟨vm₁, cX, kX, hfX, hkX, -, -, X₁, st1⟩ := Y.newCold hexec (own := own) (C := cls) (index := ik) (n := 6) hown' hk' hins hini'
    (g := F0 m pc ls rest) rfl (by rw [hb]; exact d0) (Nat.le_refl _) (Nat.le_refl _)
  generalize hT1 : (T.setVm vm₁).pushCell { cls := cX, slots := kX.instanceTypes.map defaultValue, vm := .none } = T1 at X₁ st1
  have hcat : (Value.ref T.heap.size).category = 1 := rfl
  have hcellA : T1.heap[T.heap.size]? = some (freshCell cX kX) := by rw [← hT1]; exact State.heap_pushCell_size _ _
  have d3' : decode c.code (pc + 3) = .ok (.dup, 1) := by rw [hb]; exact d3
  obtain ⟨U, hsteps, hrun, hend, hW, hsame, ce, hce, hO⟩ := X₁.ctorThrow0 hexec htr (own := own) (cls := cls) (names := names) (ic := ic) hown' hcls hnames h (fun x hx => nomatch hx) hfX hkX hcellA (by rw [hhp, hT]; exact Nat.le_refl _)
    (g := { method := m, pc := pc + 4, locals := ls, stack := .ref T.heap.size :: .ref T.heap.size :: rest, locked := none }) rfl hsize rfl rfl (rest := rest) rfl
    (by rw [hb]; exact d4) (by rw [hb]; exact d7) hout hRframes (by simp only [List.map_cons, List.sum_cons, hcat]; omega) hlocks
  obtain ⟨f1, f2⟩ := vx_frame hsame
  rw [hhp] at f1 f2
  have hWs : s.WarmedH U.vm := State.WarmedH.trans hW0 hW
  have hcl : s.vm.findClass cls = some ce.cls := by
    have h9 := hO.cls
    rw [hvm] at h9
    exact h9
  have hall : s.sameButNew ({ U with vm := s.vm } : State) locs mc ms := by
    subst hA
    obtain ⟨e1, e2⟩ := hsame
    rw [State.setFrames_setFrames] at e1
    have h2 : (T.setVm s.vm).sameButNew ({ U with vm := s.vm } : State) [] (0 + 1) (0 + 6) := ⟨e1, e2⟩
    have h3 := X.same.trans h2
    rw [List.append_nil] at h3
    exact h3.mono hc hs
  refine ⟨U, ?_, .threw T.heap.size, hrun, hend, Or.inr ⟨T.heap.size, rfl, cls, ce, locs, hx U hWs.alike f1 (fun q hq => f2 q hq (fun z hz => nomatch hz)), hce, hO.vm, hcl, hWs, hall, hf⟩⟩
  refine st1 _ ?_
  show Steps p.tables e below (T1.setTop { method := m, pc := pc + 3, locals := ls, stack := .ref T.heap.size :: rest, locked := none }) _
  jvm_step X₁.here [X₁.here.top, hexec, d3', Value.category]
  exact hsteps
/-- 'throw new E("text")': new; dup; ldc; invokespecial; athrow -/
theorem vx_throwS {cc : ByteArray} {pc : Nat} (hexec : p.tables.exec = Jvm.exec) (hb : c.code = cc) (hl : l.stackTraces = false) {own cls text : String} {names : List String} {ik is ic mc ms sa : Nat} {A : Nat → Prop}
    (hown : s.vm.findClass own = some m.cls) (hcls : Bundle.fit cls = true) (hnames : ∀ n ∈ names, Bundle.fit n = true)
    (hk : (Cond.classLink own ik cls).before args s = true) (hini : (Cond.initialized cls).before args s = true) (hstr : vk_R own is text sa s) (hat : ∀ w ∈ vx_atS own ic cls names, w.before args s = true)
    (hgood : ∀ w ∈ Cond.classLink own ik cls :: Cond.initialized cls :: vx_atS own ic cls names, vx_ot w = true)
    (hU : vx_Zq Bundle.tN "UNASSIGNED_STACK" Bundle.steD A s s.heap) (hN : vx_Zq Bundle.tN "SUPPRESSED_SENTINEL" Bundle.listD A s s.heap) (hS : va_S A s.heap H locs) (hsize : ls.size = c.maxLocals)
    (d0 : decode cc pc = .ok (.new ik, 3)) (d3 : decode cc (pc + 3) = .ok (.dup, 1)) (d4 : decode cc (pc + 4) = .ok (.ldc is, 2)) (d6 : decode cc (pc + 6) = .ok (.invokespecial ic, 3)) (d9 : decode cc (pc + 9) = .ok (.athrow, 1))
    (hout : ∀ x ∈ c.exceptionTable.toList, covers x (pc + 9) = false)
    (hRframes : names.length + 3 < R.frames) (hRlocals : (rest.map fun v => v.category).sum + (13 * (names.length + 1) + 43) ≤ R.locals) (hRcells : cells + 1 ≤ R.cells) (hRslots : slots + 6 ≤ R.slots) (hlocks : meth.locks = false)
    (hx : ∀ t : State, s.vm.Alike t.vm → H.size ≤ t.heap.size → (∀ q : Nat, q < H.size → t.heap[q]? = H[q]?) → XC cls s t)
    (hf : ∀ z ∈ locs, free z.base) (hc : cells + 1 ≤ mc) (hs : slots + 6 ≤ ms) :
    W p l e R s m args below meth c H locs cells slots (vx_MQ below Qc XC args s mc ms free) (F0 m pc ls rest) := by
  intro T hT X
  have htr : e.platform.stackTraces = false := (show e.platform.stackTraces = l.stackTraces by rw [X.admits.platform]).trans hl
  have Y := vx_rebase X (R' := { frames := R.frames, locals := R.locals, cells := 1, slots := 6 }) (Nat.le_refl _) (Nat.le_refl _) hRcells hRslots
  obtain ⟨s', hA⟩ : ∃ z, z = (T.setVm s.vm).setFrames (.invoking m args :: below) := ⟨_, rfl⟩
  rw [← hA] at Y
  have hvm : s'.vm = s.vm := by rw [hA]; rfl
  have hhp : s'.heap = H := by rw [hA]; exact hT
  have hW0 : s.WarmedH s'.vm := by rw [hvm]; exact State.WarmedH.refl s
  have hat' : ∀ w ∈ vx_atS own ic cls names, w.before args s' = true := fun w hw => vx_ot_at hW0 hvm.symm (hgood w (List.mem_cons_of_mem _ (List.mem_cons_of_mem _ hw))) (hat w hw)
  have hk' : (Cond.classLink own ik cls).before args s' = true := vx_ot_at hW0 hvm.symm (hgood _ List.mem_cons_self) hk
  have hini' : (Cond.initialized cls).before args s' = true := vx_ot_at hW0 hvm.symm (hgood _ (List.mem_cons_of_mem _ List.mem_cons_self)) hini
  have hU' : vx_Zq Bundle.tN "UNASSIGNED_STACK" Bundle.steD A s' s'.heap := by rw [hhp]; exact vx_Zq.moved hW0.alike (hU.kept hS.2.1)
  have hN' : vx_Zq Bundle.tN "SUPPRESSED_SENTINEL" Bundle.listD A s' s'.heap := by rw [hhp]; exact vx_Zq.moved hW0.alike (hN.kept hS.2.1)
  have h : ∀ w ∈ Bundle.ownAtoms own ic cls names, w.before args s' = true := vx_own hat' (vx_isRefq hU'.1) (vx_isRefq hN'.1) hU'.2.word hN'.2.word
  have hown' : s'.vm.findClass own = some m.cls := by rw [hvm]; exact hown
  have hins : (Cond.instantiable cls 6).before args s' = true := h _ (by simp [Bundle.ownAtoms])
  obtain ⟨vm₁, cX, kX, hfX, hkX, -, -, X₁, st1⟩ := Y.newCold hexec (own := own) (C := cls) (index := ik) (n := 6) hown' hk' hins hini'
    (g := F0 m pc ls rest) rfl (by rw [hb]; exact d0) (Nat.le_refl _) (Nat.le_refl _)
  generalize hT1 : (T.setVm vm₁).pushCell { cls := cX, slots := kX.instanceTypes.map defaultValue, vm := .none } = T1 at X₁ st1
  have hcat : (Value.ref T.heap.size).category = 1 := rfl
  have hcellA : T1.heap[T.heap.size]? = some (freshCell cX kX) := by rw [← hT1]; exact State.heap_pushCell_size _ _
  have d3' : decode c.code (pc + 3) = .ok (.dup, 1) := by rw [hb]; exact d3
  have d4' : decode c.code (pc + 4) = .ok (.ldc is, 2) := by rw [hb]; exact d4
  have hstr' : vk_R own is text sa s' := vk_R.warm hW0 hstr
  obtain ⟨U, hsteps, hrun, hend, hW, hsame, ce, hce, hO⟩ := X₁.ctorThrowS hexec htr (own := own) (cls := cls) (names := names) (ic := ic) hown' hcls hnames h (fun x hx => nomatch hx) hfX hkX hcellA (by rw [hhp, hT]; exact Nat.le_refl _) (msg := .ref sa) rfl
    (g := { method := m, pc := pc + 6, locals := ls, stack := .ref sa :: .ref T.heap.size :: .ref T.heap.size :: rest, locked := none }) rfl hsize rfl rfl (rest := rest) rfl
    (by rw [hb]; exact d6) (by rw [hb]; exact d9) hout hRframes (by simp only [List.map_cons, List.sum_cons, hcat]; omega) hlocks
  obtain ⟨f1, f2⟩ := vx_frame hsame
  rw [hhp] at f1 f2
  have hWs : s.WarmedH U.vm := State.WarmedH.trans hW0 hW
  have hcl : s.vm.findClass cls = some ce.cls := by
    have h9 := hO.cls
    rw [hvm] at h9
    exact h9
  have hall : s.sameButNew ({ U with vm := s.vm } : State) locs mc ms := by
    subst hA
    obtain ⟨e1, e2⟩ := hsame
    rw [State.setFrames_setFrames] at e1
    have h2 : (T.setVm s.vm).sameButNew ({ U with vm := s.vm } : State) [] (0 + 1) (0 + 6) := ⟨e1, e2⟩
    have h3 := X.same.trans h2
    rw [List.append_nil] at h3
    exact h3.mono hc hs
  refine ⟨U, ?_, .threw T.heap.size, hrun, hend, Or.inr ⟨T.heap.size, rfl, cls, ce, locs, hx U hWs.alike f1 (fun q hq => f2 q hq (fun z hz => nomatch hz)), hce, hO.vm, hcl, hWs, hall, hf⟩⟩
  refine st1 _ ?_
  show Steps p.tables e below (T1.setTop { method := m, pc := pc + 3, locals := ls, stack := .ref T.heap.size :: rest, locked := none }) _
  jvm_step X₁.here [X₁.here.top, hexec, d3', Value.category]
  exact X₁.ldcString hexec (own := own) (text := text) (index := is) (a := sa) hown' hstr'.1 hstr'.2
    (g := { method := m, pc := pc + 4, locals := ls, stack := .ref T.heap.size :: .ref T.heap.size :: rest, locked := none }) rfl d4' _ hsteps
/-- 'throw new E("text")', the text by a wide index -/
theorem vx_throwSW {cc : ByteArray} {pc : Nat} (hexec : p.tables.exec = Jvm.exec) (hb : c.code = cc) (hl : l.stackTraces = false) {own cls text : String} {names : List String} {ik is ic mc ms sa : Nat} {A : Nat → Prop}
    (hown : s.vm.findClass own = some m.cls) (hcls : Bundle.fit cls = true) (hnames : ∀ n ∈ names, Bundle.fit n = true)
    (hk : (Cond.classLink own ik cls).before args s = true) (hini : (Cond.initialized cls).before args s = true) (hstr : vk_R own is text sa s) (hat : ∀ w ∈ vx_atS own ic cls names, w.before args s = true)
    (hgood : ∀ w ∈ Cond.classLink own ik cls :: Cond.initialized cls :: vx_atS own ic cls names, vx_ot w = true)
    (hU : vx_Zq Bundle.tN "UNASSIGNED_STACK" Bundle.steD A s s.heap) (hN : vx_Zq Bundle.tN "SUPPRESSED_SENTINEL" Bundle.listD A s s.heap) (hS : va_S A s.heap H locs) (hsize : ls.size = c.maxLocals)
    (d0 : decode cc pc = .ok (.new ik, 3)) (d3 : decode cc (pc + 3) = .ok (.dup, 1)) (d4 : decode cc (pc + 4) = .ok (.ldc_w is, 3)) (d7 : decode cc (pc + 7) = .ok (.invokespecial ic, 3)) (d10 : decode cc (pc + 10) = .ok (.athrow, 1))
    (hout : ∀ x ∈ c.exceptionTable.toList, covers x (pc + 10) = false)
    (hRframes : names.length + 3 < R.frames) (hRlocals : (rest.map fun v => v.category).sum + (13 * (names.length + 1) + 43) ≤ R.locals) (hRcells : cells + 1 ≤ R.cells) (hRslots : slots + 6 ≤ R.slots) (hlocks : meth.locks = false)
    (hx : ∀ t : State, s.vm.Alike t.vm → H.size ≤ t.heap.size → (∀ q : Nat, q < H.size → t.heap[q]? = H[q]?) → XC cls s t)
    (hf : ∀ z ∈ locs, free z.base) (hc : cells + 1 ≤ mc) (hs : slots + 6 ≤ ms) :
    W p l e R s m args below meth c H locs cells slots (vx_MQ below Qc XC args s mc ms free) (F0 m pc ls rest) := by
  intro T hT X
  have htr : e.platform.stackTraces = false := (show e.platform.stackTraces = l.stackTraces by rw [X.admits.platform]).trans hl
  have Y := vx_rebase X (R' := { frames := R.frames, locals := R.locals, cells := 1, slots := 6 }) (Nat.le_refl _) (Nat.le_refl _) hRcells hRslots
  obtain ⟨s', hA⟩ : ∃ z, z = (T.setVm s.vm).setFrames (.invoking m args :: below) := ⟨_, rfl⟩
  rw [← hA] at Y
  have hvm : s'.vm = s.vm := by rw [hA]; rfl
  have hhp : s'.heap = H := by rw [hA]; exact hT
  have hW0 : s.WarmedH s'.vm := by rw [hvm]; exact State.WarmedH.refl s
  have hat' : ∀ w ∈ vx_atS own ic cls names, w.before args s' = true := fun w hw => vx_ot_at hW0 hvm.symm (hgood w (List.mem_cons_of_mem _ (List.mem_cons_of_mem _ hw))) (hat w hw)
  have hk' : (Cond.classLink own ik cls).before args s' = true := vx_ot_at hW0 hvm.symm (hgood _ List.mem_cons_self) hk
  have hini' : (Cond.initialized cls).before args s' = true := vx_ot_at hW0 hvm.symm (hgood _ (List.mem_cons_of_mem _ List.mem_cons_self)) hini
  have hU' : vx_Zq Bundle.tN "UNASSIGNED_STACK" Bundle.steD A s' s'.heap := by rw [hhp]; exact vx_Zq.moved hW0.alike (hU.kept hS.2.1)
  have hN' : vx_Zq Bundle.tN "SUPPRESSED_SENTINEL" Bundle.listD A s' s'.heap := by rw [hhp]; exact vx_Zq.moved hW0.alike (hN.kept hS.2.1)
  have h : ∀ w ∈ Bundle.ownAtoms own ic cls names, w.before args s' = true := vx_own hat' (vx_isRefq hU'.1) (vx_isRefq hN'.1) hU'.2.word hN'.2.word
  have hown' : s'.vm.findClass own = some m.cls := by rw [hvm]; exact hown
  have hins : (Cond.instantiable cls 6).before args s' = true := h _ (by simp [Bundle.ownAtoms])
  obtain ⟨vm₁, cX, kX, hfX, hkX, -, -, X₁, st1⟩ := Y.newCold hexec (own := own) (C := cls) (index := ik) (n := 6) hown' hk' hins hini'
    (g := F0 m pc ls rest) rfl (by rw [hb]; exact d0) (Nat.le_refl _) (Nat.le_refl _)
  generalize hT1 : (T.setVm vm₁).pushCell { cls := cX, slots := kX.instanceTypes.map defaultValue, vm := .none } = T1 at X₁ st1
  have hcat : (Value.ref T.heap.size).category = 1 := rfl
  have hcellA : T1.heap[T.heap.size]? = some (freshCell cX kX) := by rw [← hT1]; exact State.heap_pushCell_size _ _
  have d3' : decode c.code (pc + 3) = .ok (.dup, 1) := by rw [hb]; exact d3
  have d4' : decode c.code (pc + 4) = .ok (.ldc_w is, 3) := by rw [hb]; exact d4
  have hstr' : vk_R own is text sa s' := vk_R.warm hW0 hstr
  obtain ⟨U, hsteps, hrun, hend, hW, hsame, ce, hce, hO⟩ := X₁.ctorThrowS hexec htr (own := own) (cls := cls) (names := names) (ic := ic) hown' hcls hnames h (fun x hx => nomatch hx) hfX hkX hcellA (by rw [hhp, hT]; exact Nat.le_refl _) (msg := .ref sa) rfl
    (g := { method := m, pc := pc + 7, locals := ls, stack := .ref sa :: .ref T.heap.size :: .ref T.heap.size :: rest, locked := none }) rfl hsize rfl rfl (rest := rest) rfl
    (by rw [hb]; exact d7) (by rw [hb]; exact d10) hout hRframes (by simp only [List.map_cons, List.sum_cons, hcat]; omega) hlocks
  obtain ⟨f1, f2⟩ := vx_frame hsame
  rw [hhp] at f1 f2
  have hWs : s.WarmedH U.vm := State.WarmedH.trans hW0 hW
  have hcl : s.vm.findClass cls = some ce.cls := by
    have h9 := hO.cls
    rw [hvm] at h9
    exact h9
  have hall : s.sameButNew ({ U with vm := s.vm } : State) locs mc ms := by
    subst hA
    obtain ⟨e1, e2⟩ := hsame
    rw [State.setFrames_setFrames] at e1
    have h2 : (T.setVm s.vm).sameButNew ({ U with vm := s.vm } : State) [] (0 + 1) (0 + 6) := ⟨e1, e2⟩
    have h3 := X.same.trans h2
    rw [List.append_nil] at h3
    exact h3.mono hc hs
  refine ⟨U, ?_, .threw T.heap.size, hrun, hend, Or.inr ⟨T.heap.size, rfl, cls, ce, locs, hx U hWs.alike f1 (fun q hq => f2 q hq (fun z hz => nomatch hz)), hce, hO.vm, hcl, hWs, hall, hf⟩⟩
  refine st1 _ ?_
  show Steps p.tables e below (T1.setTop { method := m, pc := pc + 3, locals := ls, stack := .ref T.heap.size :: rest, locked := none }) _
  jvm_step X₁.here [X₁.here.top, hexec, d3', Value.category]
  exact X₁.ldcStringW hexec (own := own) (text := text) (index := is) (a := sa) hown' hstr'.1 hstr'.2
    (g := { method := m, pc := pc + 4, locals := ls, stack := .ref T.heap.size :: .ref T.heap.size :: rest, locked := none }) rfl d4' _ hsteps
end Ends
section Bodies
variable {l : Launch}
theorem vx_ofW {y : MethodName} {ws ws' : List Cond} {rm : Room} {Pc : Array Value → State → Prop} {Qc : Array Value → State → Outcome → State → Prop} {XC : String → State → State → Prop} {mc ms : Nat} {free : Addr → Prop} {cc : ByteArray} {maxL : Nat} {ret : Option FieldType}
    (hy : plainName y.cls = true) (hw : ws = Cond.code y cc maxL ret :: ws')
    (body : ∀ p e s m args below meth c s₁, BodyLoose p l y (headSpec ws rm) cc maxL ret e s m args below meth c s₁ → c.maxLocals = maxL → (∀ x ∈ c.exceptionTable.toList, False) → Pc args s →
      W p l e (headSpec ws rm).room s m args below meth c s.heap [] 0 0 (vx_MQ below Qc XC args s mc ms free) (entryFrame m args maxL)) : vx_Met l y ws rm Pc Qc XC mc ms free := by
  refine MetFree.of_bodyS (code := cc) (maxLocals := maxL) (ret := ret) hy ?_ ?_
  · intro args s m h hn
    obtain ⟨meth, c, h1, h2, h3, h4, h5, h6, -, -⟩ := Cond.code_spec hn (atoms_spec (ws := ws) h _ (by rw [hw]; exact List.mem_cons_self))
    exact ⟨meth, c, h1, h2, h3, h4, h5, h6⟩
  · intro p e s m args below meth c s₁ B hml hP _
    have hh0 : s₁.heap = s.heap := by rw [B.state]; rfl
    have ht : ∀ x ∈ c.exceptionTable.toList, False := by
      obtain ⟨meth9, c9, h1, h2, -, -, -, -, h7, -⟩ := Cond.code_spec B.named (atoms_spec (ws := ws) B.pre _ (by rw [hw]; exact List.mem_cons_self))
      cases Option.some.inj (h1.symm.trans B.method)
      cases Option.some.inj (h2.symm.trans (Stand.of_body B).code)
      intro x hx
      rw [Array.isEmpty_iff.mp h7] at hx
      cases hx
    obtain ⟨t, a1, o, b1, b2, b3⟩ := body p e s m args below meth c s₁ B hml ht hP s₁ hh0 (Stand.of_body B)
    exact ⟨t, o, a1, b1, b2, b3⟩
/-- the table of a body with handlers -/
theorem vx_table {p : Program} {x y : MethodName} {S : Spec} {cc bytes : ByteArray} {maxL maxL' : Nat} {ret ret' : Option FieldType} {e : Env} {s s₁ : State} {m : MethodId} {args : Array Value} {below : List Frame} {meth : Method} {c : Code} {hh : List (Nat × Nat × Nat × Nat)}
    (B : BodyLoose p l y S cc maxL ret e s m args below meth c s₁) (h : (Cond.codeWith y bytes maxL' ret' hh).before args s = true) : c.exceptionTable.toList = tableOf hh := by
  obtain ⟨m9, meth9, c9, hn9, h1, h2, -, -, h6, -⟩ := Cond.codeWith_spec h
  cases Option.some.inj (hn9.symm.trans B.named)
  cases Option.some.inj (h1.symm.trans B.method)
  cases Option.some.inj (h2.symm.trans (Stand.of_body B).code)
  rw [← h6, table_eq]
end Bodies
end VXA
/-! ===== END ===== -/
/-! ===== BEGIN a static call of a method with an exception table ===== -/
section VXS
variable {p : Program} {l : Launch} {e : Env} {R : Room} {s : State} {m : MethodId} {args : Array Value} {below : List Frame} {meth : Method} {c : Code} {T : State} {H : Heap} {locs : List Loc} {cells slots : Nat}
abbrev vx_CSW (R : Room) (s : State) (args : Array Value) (own : String) (index : Nat) (y : MethodName) (bytes : ByteArray) (maxL : Nat) (ret : Option FieldType) (hh : List (Nat × Nat × Nat × Nat)) (ws : List Cond) (rm : Room) (mc ms n : Nat) : Prop :=
  (rm.cells = mc ∧ rm.slots = ms ∧ rm.frames + 1 ≤ R.frames ∧ 8 + (maxL + 11) + rm.locals ≤ R.locals ∧ (∀ w ∈ ws, ∀ (a' : Array Value) (U : State), s.WarmedH U.vm → w.before a' U = true) ∧ Cond.codeWith y bytes maxL ret hh ∈ ws) ∧
  (Cond.codeWith y bytes maxL ret hh).before args s = true ∧ (Cond.initialized y.cls).before args s = true ∧ (y.cls ≠ "java/lang/invoke/MethodHandle" ∧ y.cls ≠ "java/lang/invoke/VarHandle") ∧
  (∀ sig, parseMethodDescriptor y.desc = some sig → n = sig.parameters.length) ∧ (Cond.methodLink own index y).before args s = true ∧ (Cond.static y).before args s = true
theorem vx_cwSW {own : String} {index maxL mc ms : Nat} {y : MethodName} {bytes : ByteArray} {ret : Option FieldType} {hh : List (Nat × Nat × Nat × Nat)} {Ts ws ws' : List Cond} {rm : Room} (n : Nat) (ht : ∀ w ∈ Ts, w.before args s = true) (hT : GoodIn Ts (va_wsS own index y ws)) (hw : ws = Cond.codeWith y bytes maxL ret hh :: ws') (hrc : rm.cells = mc) (hrs : rm.slots = ms)
    (hd : y.cls ≠ "java/lang/invoke/MethodHandle" ∧ y.cls ≠ "java/lang/invoke/VarHandle" ∧ (parseMethodDescriptor y.desc).map (fun d => d.parameters.length) = some n) (hR : rm.frames + 1 ≤ R.frames ∧ 8 + (maxL + 11) + rm.locals ≤ R.locals) :
    vx_CSW R s args own index y bytes maxL ret hh ws rm mc ms n := by
  have ok : ∀ w ∈ va_wsS own index y ws, w.before args s = true := fun w h => ht w (hT w h).1
  have hG : GoodIn Ts ws := fun w h => hT w (by unfold va_wsS; exact List.mem_append_right _ h)
  have hc : Cond.codeWith y bytes maxL ret hh ∈ ws := by rw [hw]; exact List.mem_cons_self
  refine ⟨⟨hrc, hrs, hR.1, hR.2, pay_in ht hG, hc⟩, ht _ (hG _ hc).1, ok _ (by simp [va_wsS]), ⟨hd.1, hd.2.1⟩, fun sig h => ?_, ok _ (by simp [va_wsS]), ok _ (by simp [va_wsS])⟩
  have h2 := hd.2.2
  rw [h] at h2
  exact (Option.some.inj h2).symm
theorem vx_callSW (X : Stand p l e R s m args below meth c T locs cells slots) (hexec : p.tables.exec = Jvm.exec) {own : String} {index : Nat} {y : MethodName} {bytes : ByteArray} {maxL : Nat} {ret : Option FieldType} {hh : List (Nat × Nat × Nat × Nat)}
    (hown : s.vm.findClass own = some m.cls) (hlink : (Cond.methodLink own index y).before args s = true) (hstat : (Cond.static y).before args s = true) (hinit : (Cond.initialized y.cls).before args s = true)
    (hcode : (Cond.codeWith y bytes maxL ret hh).before args s = true) (hy : y.cls ≠ "java/lang/invoke/MethodHandle" ∧ y.cls ≠ "java/lang/invoke/VarHandle")
    {W9 : Nat} {Pre : Pt → Array Value → Prop} {Post : Pt → Array Value → Option Value → Pt → Prop} (hK : Back l R p e below s args y 3 W9 Pre Post)
    {g : JFrame} (hg : g.method = m) (hsize : g.locals.size = c.maxLocals) {argsL rest : List Value} (hlen : ∀ sig, parseMethodDescriptor y.desc = some sig → argsL.length = sig.parameters.length)
    (hstack : g.stack = argsL.reverse ++ rest) (hW : 2 * g.monitorRoom + (rest.map fun v => v.category).sum ≤ W9) (hdg : decode c.code g.pc = .ok (.invokestatic index, 3))
    (hpre : ∀ vm₁, s.WarmedH vm₁ → Pre ⟨T.setVm vm₁, locs, cells, slots⟩ argsL.toArray) :
    ∃ (v : Option Value) (vm₁ : Vm) (B : Pt), s.WarmedH vm₁ ∧ Stand p l e R s m args below meth c B.U B.locs B.cells B.slots ∧ Post ⟨T.setVm vm₁, locs, cells, slots⟩ argsL.toArray v B ∧
      ∀ target, Steps p.tables e below (B.U.setTop { g with pc := g.pc + 3, stack := v.toList ++ rest }) target → Steps p.tables e below (T.setTop g) target := by
  obtain ⟨mk, methM, cM, hnamed, hmethM, -, -, -, -, -, -, hsigM⟩ := Cond.codeWith_spec hcode
  have hstatic : methM.isStatic = true := Cond.static_spec hnamed hmethM hstat
  obtain ⟨kP, hkP, -⟩ := className_of_methodNamed hnamed
  have hinitP : kP.init = .initialized := Cond.initialized_spec (findClass_of_methodNamed hnamed) hkP hinit
  obtain ⟨vm₁, X₁, hstep₁⟩ := X.invokestatic hexec hown hlink hnamed hmethM hstatic hkP hinitP hy (g := g) hg (argsL := argsL) (rest := rest) (hlen _ hsigM) hstack hdg
  obtain ⟨v, B, X', hpost, hsteps⟩ := hK m meth c ⟨T.setVm vm₁, locs, cells, slots⟩ { g with stack := rest } (.invokestatic index) mk argsL.toArray X₁ hg hsize hdg hW (X₁.named hnamed) (hpre vm₁ X₁.warmed)
  exact ⟨v, vm₁, B, X₁.warmed, X', hpost, fun target h => hstep₁ _ fun acts => by rw [doInvoke_state]; exact hsteps.trans h⟩
theorem vx_runSW {y : MethodName} {bytes cc : ByteArray} {maxL nL mc ms n index : Nat} {ret : Option FieldType} {hh : List (Nat × Nat × Nat × Nat)} {ws : List Cond} {rm : Room} {Pc : Array Value → State → Prop} {Qc : Array Value → State → Outcome → State → Prop} {free : Addr → Prop} {Ts : List Cond} {own : String} {As rest : List Value} {g : JFrame}
    (S : CallFix p m c cc nL s args Ts own) (hM : Met l y ws rm Pc Qc mc ms free) (cw : vx_CSW R s args own index y bytes maxL ret hh ws rm mc ms n) (hp : PreS s H Pc As)
    (hg : g.method = m) (hn : As.length = n) (hsize : g.locals.size = nL) (hstack : g.stack = As.reverse ++ rest) (hW : 2 * g.monitorRoom + (rest.map fun v => v.category).sum ≤ 8) (hdg : decode cc g.pc = .ok (.invokestatic index, 3)) (hf : cells + mc ≤ R.cells ∧ slots + ms ≤ R.slots) :
    va_Run p l e R s m args below meth c H locs cells slots mc ms g rest (Qc As.toArray) (free) := by
  obtain ⟨⟨hrc, hrs, hfr, hlo, hws, hcw⟩, hcode, hini, hy, hlen, hl, hstt⟩ := cw
  have hK : Back l R p e below s args y 3 8 (PreOf R mc ms Pc) (PostOf Qc mc ms free) := va_backW (hh := hh) (bytes := bytes) (maxL := maxL) (ret := ret) hM hp.1 hrc hrs hfr hlo hws hcw (fun a' U hW => word_at hW (Or.inl (by first | rfl | simp [Cond.onTables, Cond.keeps, Cond.steady])) hini)
  obtain ⟨hx, hb, hml, ho, -⟩ := S
  intro T hT X
  obtain ⟨v, vm₁, ⟨U', l2, c2, s2⟩, hW₁, X', ⟨g', mk, t, L, e1, e2, hq, h1, hL, h2, h3⟩, st⟩ := vx_callSW X hx (hh := hh) (bytes := bytes) (maxL := maxL) (ret := ret) ho hl hstt hini hcode hy hK hg (hsize.trans hml.symm) (argsL := As) (rest := rest) (fun sig h => hn.trans (hlen sig h)) hstack hW (by rw [hb]; exact hdg)
    (fun vm₁ hW₁ => ⟨hf.1, hf.2, hp.2 (T.setVm vm₁) hT hW₁⟩)
  dsimp only [Pt.U, Pt.locs, Pt.cells, Pt.slots] at X' e1 e2 h1 h2 h3 st
  subst h1; subst h2; subst h3
  exact ⟨v, (T.setVm vm₁).calling g' mk As.toArray, t, U', L, hT, X', hL, e1, e2, hq, st⟩
/-- not caught here, past rows that name other classes: it goes on to the caller -/
theorem vx_outP {p : Program} {l : Launch} {e : Env} {R : Room} {s : State} {m : MethodId} {args : Array Value} {below : List Frame} {meth : Method} {c : Code} {H : Heap} {locs : List Loc} {cells slots : Nat} {free : Addr → Prop} {ls : Array Slot} {rest : List Value} {Qc : Array Value → State → Outcome → State → Prop} {XC : String → State → State → Prop}
    {pc : Nat} {own E : String} {ce : Cell} {q : Addr} {mc ms : Nat} (hown : s.vm.findClass own = some m.cls) (hlocks : meth.locks = false)
    (hpass : ∀ z ∈ c.exceptionTable.toList, covers z pc = false ∨ (z.catchType ≠ 0 ∧ ∃ nm : String, (Cond.classLink own z.catchType nm).before args s = true ∧ va_Nc E nm s)) (hcell : H[q]? = some ce) (hv : ce.vm = .none) (hcl : s.vm.findClass E = some ce.cls)
    (hx : ∀ t : State, t.heap = H → s.vm.Alike t.vm → XC E s t) (hf : ∀ z ∈ locs, free z.base) (hc : cells ≤ mc) (hs : slots ≤ ms) :
    vx_W p l e R s m args below meth c H locs cells slots (vx_MQ below Qc XC args s mc ms free) (F0 m pc ls rest) q := by
  intro T hT X
  have hpl : e.platform.magicAccessors = ({} : Platform).magicAccessors := by rw [X.admits.platform]
  obtain ⟨vm', hW', X', st⟩ := X.outThrough hlocks q (g := F0 m pc ls rest) rfl rfl rfl (cell := ce) (by rw [hT]; exact hcell) (by rw [hv]; rfl)
    (by obtain ⟨k9, h9, -⟩ := Vm.findClass_spec hcl; exact ⟨k9, h9⟩) (fun z hz => by
      rcases hpass z hz with h | ⟨hz0, nm, hl1, hn1⟩
      · exact Or.inl h
      · obtain ⟨c6, hc6, hcl6⟩ := Cond.classLink_spec hown hl1 e.platform hpl
        obtain ⟨a8, b8, h1, h2, h3⟩ := hn1
        cases Option.some.inj (h1.symm.trans hcl)
        cases Option.some.inj (h2.symm.trans hc6)
        exact Or.inr ⟨hz0, _, hcl6, h3⟩)
  obtain ⟨g₀, hfr⟩ := X'.frames_eq
  have hcell9 : ((T.setVm vm').setFrames (.throwing q :: below)).heap[q]? = some ce := by
    show T.heap[q]? = some ce
    rw [hT]; exact hcell
  have hend : Ended ((T.setVm vm').setFrames (.throwing q :: below)) below (.threw q) := State.frames_setFrames _ (State.cur_lt_of_frames hfr)
  refine ⟨(T.setVm vm').setFrames (.throwing q :: below), ?_, .threw q, X'.here.running, hend, Or.inr ⟨q, rfl, E, ce, locs, hx _ hT (X'.ends _).1.alike, hcell9, hv, hcl, (X'.ends _).1, (X'.ends _).2.mono hc hs, hf⟩⟩
  rw [X.pushThrowing_eq]
  exact st
/-- a thing of a world lies in the heap -/
theorem vx_lt {D : va_G} {cl : List vw_C} {ws : va_W} {H1 : Heap} (h : va_P D cl ws H1) {k : Nat} {q : Nat × va_E} (hk : ws[k]? = some q) : q.1 < H1.size := (h k q hk).lt
end VXS
/-! ===== END ===== -/
/-! ===== BEGIN methods with a table of their own: called by a name, returning or throwing ===== -/
section VXH
/-! vx_backW, vx_callVX, vx_callSX, vx_callVW, vx_runVW, vx_runVX, vx_runSX, vx_ofWH follow the same proofs as their sisters above (Free/Laws.lean, Shelf42/LK1.lean); vx_outP calls Shelf42/NT130.lean (outThrough). -/
section
variable {l : Launch} {R : Room} {p : Program} {e : Env} {below : List Frame} {s : State} {sargs : Array Value} {y : MethodName} {len W9 : Nat}
theorem vx_backW {ws : List Cond} {rm : Room} {Pc : Array Value → State → Prop} {Qc : Array Value → State → Outcome → State → Prop} {XC : String → State → State → Prop} {mc ms : Nat} {free : Addr → Prop} {bytes : ByteArray} {maxL : Nat} {ret : Option FieldType} {hh : List (Nat × Nat × Nat × Nat)}
    (hM : vx_Met l y ws rm Pc Qc XC mc ms free) (hblind : FrameBlind Pc) (hrc : rm.cells = mc) (hrs : rm.slots = ms)
    (hframes : rm.frames + 1 ≤ R.frames) (hlocals : W9 + (maxL + 11) + rm.locals ≤ R.locals)
    (hws : ∀ w ∈ ws, ∀ a' U, s.WarmedH U.vm → w.before a' U = true) (hcode : Cond.codeWith y bytes maxL ret hh ∈ ws) (hinit : ∀ a' U, s.WarmedH U.vm → (Cond.initialized y.cls).before a' U = true) :
    vx_Back l R p e below s sargs y len W9 (PreOf R mc ms Pc) (PostOf Qc mc ms free) (vx_Post XC mc ms free) := by
  intro m meth c A g ig mk a X hg hsize hdg hW hn hp
  have h1 : (headSpec ws rm).pre.before a A.U = true := atoms_intro fun w hw => hws w hw _ _ X.warmed
  have h2 : (Cond.codeWith y bytes maxL ret hh).before a A.U = true := hws _ hcode _ _ X.warmed
  have h3 : (Cond.initialized y.cls).before a A.U = true := hinit _ _ X.warmed
  have h4 : A.cells + (headSpec ws rm).room.cells ≤ R.cells := by rw [show (headSpec ws rm).room.cells = mc from hrc]; exact hp.1
  have h5 : A.slots + (headSpec ws rm).room.slots ≤ R.slots := by rw [show (headSpec ws rm).room.slots = ms from hrs]; exact hp.2.1
  have hPc : Pc a (A.U.calling g mk a) := hblind _ _ _ _ hp.2.2
  obtain ⟨U, Ls, c0, s0⟩ := A
  dsimp only [Pt.U, Pt.locs, Pt.cells, Pt.slots] at h1 h2 h3 h4 h5 X hn hPc ⊢
  obtain ⟨m9, methY, cY, hn9, hmY, hcY, -, hlY, -⟩ := Cond.codeWith_spec h2
  cases Option.some.inj (hn9.symm.trans hn)
  obtain ⟨kY, hkY, -⟩ := className_of_methodNamed hn
  have hinitY : kY.init = .initialized := Cond.initialized_spec (findClass_of_methodNamed hn) hkY h3
  have h : At U g.method c below := by rw [hg]; exact X.here
  have hlocals9 : W9 + (maxL + 11) + (headSpec ws rm).room.locals ≤ R.locals := hlocals
  have happ : (headSpec ws rm).appliesLoose y e.platform (U.calling g mk a) = true :=
    Spec.appliesLoose_calling (g := g) h hdg hn hkY hinitY
      (X.room_calling (g := g) (R' := (headSpec ws rm).room) hsize hmY hcY hframes (by rw [hlY]; omega) h4 h5) h1
  obtain ⟨mid, hmid⟩ := h.above
  have hfr : (U.setTop g).frames = (.java g :: mid) ++ below := by rw [State.frames_setTop' g h.top, hmid]; rfl
  obtain ⟨o, s₂, hsteps, -, hend, hq⟩ := Steps.callFree hM p X.admits X.cas X.clock (acts := []) hfr happ hPc trivial
  have hq' : vx_Q Qc XC mc ms free a (U.calling g mk a) o s₂ := hq
  rw [State.frames_setTop' g h.top] at hend
  obtain ⟨g₀, hg0⟩ := Option.isSome_iff_exists.mp h.top
  obtain ⟨r, hr⟩ := State.topJava?_eq_some.mp hg0
  have hr' : (({ U with heap := s₂.heap, slotsUsed := s₂.slotsUsed } : State).setVm s₂.vm).frames = .java g₀ :: r := hr
  rcases hq' with ⟨hqc, L, hfe, hL⟩ | ⟨q, rfl, E, ce, L, hx, hce, hcv, hcl, hW₂, hsm, hL⟩
  · obtain ⟨⟨v, rfl⟩, hW₂, e2, q2, q3, q4, q5, q6⟩ := id hfe
    have e3 : s₂ = ({ (U.calling g mk a).setFrames s₂.frames with heap := s₂.heap, slotsUsed := s₂.slotsUsed } : State).setVm s₂.vm := by
      have : s₂ = ({ s₂ with vm := (U.calling g mk a).vm } : State).setVm s₂.vm := rfl
      rw [e2] at this
      exact this
    obtain ⟨c₂, i₂, len₂, hc₂, hd₂, hf₂⟩ := hend
    have hW' : U.WarmedH s₂.vm := hW₂
    have hcc : c₂ = c := by
      have h1 : s₂.code? g.method = U.code? g.method := by
        rw [State.code?_eq, State.code?_eq, hW'.alike.method?]
      exact Option.some.inj (hc₂.symm.trans (h1.trans h.code))
    subst hcc
    have hlen : len₂ = len := by rw [hdg] at hd₂; cases hd₂; rfl
    subst hlen
    have hs₂ : s₂ = (({ U with heap := s₂.heap, slotsUsed := s₂.slotsUsed } : State).setVm s₂.vm).setTop { g with pc := g.pc + len₂, stack := v.toList ++ g.stack } := by
      refine e3.trans ?_
      rw [hf₂, State.calling_eq h.top, State.setFrames_setFrames, State.setTop_of_frames _ hr', hr]
      rfl
    have hsame : U.sameButNew ({ U with heap := s₂.heap, slotsUsed := s₂.slotsUsed } : State) L mc ms := by
      refine ⟨?_, q2, q3, q4, q5, q6⟩
      obtain ⟨t, ht, -⟩ := State.frames_cons hr
      show ({ U with heap := s₂.heap, slotsUsed := s₂.slotsUsed } : State) = { U.setFrames U.frames with heap := s₂.heap, slotsUsed := s₂.slotsUsed }
      rw [State.setFrames_self ht]
    subst hg
    refine Or.inl ⟨v, ⟨(({ U with heap := s₂.heap, slotsUsed := s₂.slotsUsed } : State).setVm s₂.vm), Ls ++ L, c0 + mc, s0 + ms⟩,
      ⟨X.admits, X.cas, X.clock, X.frames, X.room, X.hears, X.method, X.code, (X.here.setHeapUsed s₂.heap s₂.slotsUsed).setVm hW'.alike, X.tail, State.WarmedH.trans X.warmed hW', X.limits, X.bytes, X.same.trans (hsame.setVm s.vm)⟩,
      ⟨g, mk, s₂, L, rfl, rfl, hqc, rfl, hL, rfl, rfl⟩, ?_⟩
    show Steps p.tables e below _ ((({ U with heap := s₂.heap, slotsUsed := s₂.slotsUsed } : State).setVm s₂.vm).setTop { g with pc := g.pc + len₂, stack := v.toList ++ g.stack })
    rw [← hs₂]
    exact hsteps
  · obtain ⟨e2, q2, q3, q4, q5, q6⟩ := id hsm
    have e3 : s₂ = ({ (U.calling g mk a).setFrames s₂.frames with heap := s₂.heap, slotsUsed := s₂.slotsUsed } : State).setVm s₂.vm := by
      have : s₂ = ({ s₂ with vm := (U.calling g mk a).vm } : State).setVm s₂.vm := rfl
      rw [e2] at this
      exact this
    have hf₂ : s₂.frames = .throwing q :: .java g :: U.frames.tail := hend
    have hW' : U.WarmedH s₂.vm := hW₂
    have hs₂ : s₂ = ((({ U with heap := s₂.heap, slotsUsed := s₂.slotsUsed } : State).setVm s₂.vm).setTop g).pushFrame (.throwing q) := by
      refine e3.trans ?_
      rw [hf₂, State.calling_eq h.top, State.setFrames_setFrames, State.pushFrame, State.frames_setTop _ hr', State.setTop_of_frames _ hr', State.setFrames_setFrames, hr]
      rfl
    have hsame : U.sameButNew ({ U with heap := s₂.heap, slotsUsed := s₂.slotsUsed } : State) L mc ms := by
      refine ⟨?_, q2, q3, q4, q5, q6⟩
      obtain ⟨t, ht, -⟩ := State.frames_cons hr
      show ({ U with heap := s₂.heap, slotsUsed := s₂.slotsUsed } : State) = { U.setFrames U.frames with heap := s₂.heap, slotsUsed := s₂.slotsUsed }
      rw [State.setFrames_self ht]
    subst hg
    refine Or.inr ⟨q, ⟨(({ U with heap := s₂.heap, slotsUsed := s₂.slotsUsed } : State).setVm s₂.vm), Ls ++ L, c0 + mc, s0 + ms⟩,
      ⟨X.admits, X.cas, X.clock, X.frames, X.room, X.hears, X.method, X.code, (X.here.setHeapUsed s₂.heap s₂.slotsUsed).setVm hW'.alike, X.tail, State.WarmedH.trans X.warmed hW', X.limits, X.bytes, X.same.trans (hsame.setVm s.vm)⟩,
      ⟨g, mk, s₂, L, E, ce, rfl, rfl, hx, hce, hcv, hcl, rfl, hL, rfl, rfl⟩, ?_⟩
    show Steps p.tables e below _ (((({ U with heap := s₂.heap, slotsUsed := s₂.slotsUsed } : State).setVm s₂.vm).setTop g).pushFrame (.throwing q))
    rw [← hs₂]
    exact hsteps
end
variable {p : Program} {l : Launch} {e : Env} {R : Room} {s : State} {m : MethodId} {args : Array Value} {below : List Frame} {meth : Method} {c : Code} {T : State} {H : Heap} {locs : List Loc} {cells slots : Nat}
theorem vx_callVX (X : Stand p l e R s m args below meth c T locs cells slots) (hexec : p.tables.exec = Jvm.exec) {own C : String} {index : Nat} {y : MethodName} {bytes : ByteArray} {maxL : Nat} {ret : Option FieldType} {hh : List (Nat × Nat × Nat × Nat)}
    (hown : s.vm.findClass own = some m.cls) (hlink : (Cond.methodLink own index y).before args s = true) (hinst : (Cond.instanceMethod y).before args s = true) (hsel : (Cond.selects C y y).before args s = true)
    (hcode : (Cond.codeWith y bytes maxL ret hh).before args s = true) (hy : y.cls ≠ "java/lang/invoke/MethodHandle" ∧ y.cls ≠ "java/lang/invoke/VarHandle")
    {W9 : Nat} {Pre : Pt → Array Value → Prop} {Post : Pt → Array Value → Option Value → Pt → Prop} {PostX : Pt → Array Value → Addr → Pt → Prop} (hK : vx_Back l R p e below s args y 3 W9 Pre Post PostX)
    {b : Addr} {cellB : Cell} (hcell : T.heap[b]? = some cellB) (hobj : cellB.vm.isStatics = false) (hcls : s.vm.findClass C = some cellB.cls)
    {g : JFrame} (hg : g.method = m) (hsize : g.locals.size = c.maxLocals) {argsL rest : List Value} (hlen : ∀ sig, parseMethodDescriptor y.desc = some sig → argsL.length = sig.parameters.length)
    (hstack : g.stack = argsL.reverse ++ .ref b :: rest) (hW : 2 * g.monitorRoom + (rest.map fun v => v.category).sum ≤ W9) (hdg : decode c.code g.pc = .ok (.invokevirtual index, 3))
    (hpre : ∀ vm₁, s.WarmedH vm₁ → Pre ⟨T.setVm vm₁, locs, cells, slots⟩ (Value.ref b :: argsL).toArray) :
    (∃ (v : Option Value) (vm₁ : Vm) (B : Pt), s.WarmedH vm₁ ∧ Stand p l e R s m args below meth c B.U B.locs B.cells B.slots ∧ Post ⟨T.setVm vm₁, locs, cells, slots⟩ (Value.ref b :: argsL).toArray v B ∧
      ∀ target, Steps p.tables e below (B.U.setTop { g with pc := g.pc + 3, stack := v.toList ++ rest }) target → Steps p.tables e below (T.setTop g) target) ∨
    (∃ (q : Addr) (vm₁ : Vm) (B : Pt), s.WarmedH vm₁ ∧ Stand p l e R s m args below meth c B.U B.locs B.cells B.slots ∧ PostX ⟨T.setVm vm₁, locs, cells, slots⟩ (Value.ref b :: argsL).toArray q B ∧
      Steps p.tables e below (T.setTop g) ((B.U.setTop { g with stack := rest }).pushFrame (.throwing q))) := by
  obtain ⟨mk, methM, hnamed, hmethM, hstM, habM⟩ := Cond.instanceMethod_spec hinst
  obtain ⟨m8, methM', cM, hn8, hmethM', -, -, -, -, -, -, hsigM⟩ := Cond.codeWith_spec hcode
  cases Option.some.inj (hn8.symm.trans hnamed)
  cases hmethM.symm.trans hmethM'
  obtain ⟨c2, r2, m2, q1, q2, q3, q4, kP, hkP, hkPi⟩ := Cond.selects_spec hsel
  cases hcls.symm.trans q1
  cases (State.methodFound?_of_named hnamed hy).symm.trans q2
  cases hnamed.symm.trans q3
  have hselP : selectMethod e.platform s.vm cellB.cls mk = .method mk := by rw [Launch.admits_selectMethod X.admits]; exact q4
  obtain ⟨vm₁, X₁, hstep₁⟩ := X.invokevirtual hexec hown hlink hnamed hmethM hstM hkP hkPi hy (a := b) (cell := cellB) hcell
    (fun z h => by rw [h] at hobj; cases hobj) hselP hmethM habM hkP hkPi (g := g) hg (argsL := argsL) (rest := rest) (hlen _ hsigM) hstack hdg
  rcases hK m meth c ⟨T.setVm vm₁, locs, cells, slots⟩ { g with stack := rest } (.invokevirtual index) mk (Value.ref b :: argsL).toArray X₁ hg hsize hdg hW (X₁.named hnamed) (hpre vm₁ X₁.warmed) with ⟨v, B, X', hpost, hsteps⟩ | ⟨q, B, X', hpost, hsteps⟩
  · exact Or.inl ⟨v, vm₁, B, X₁.warmed, X', hpost, fun target h => hstep₁ _ fun acts => by rw [doInvoke_state]; exact hsteps.trans h⟩
  · exact Or.inr ⟨q, vm₁, B, X₁.warmed, X', hpost, hstep₁ _ fun acts => by rw [doInvoke_state]; exact hsteps⟩
theorem vx_callSX (X : Stand p l e R s m args below meth c T locs cells slots) (hexec : p.tables.exec = Jvm.exec) {own : String} {index : Nat} {y : MethodName} {bytes : ByteArray} {maxL : Nat} {ret : Option FieldType} {hh : List (Nat × Nat × Nat × Nat)}
    (hown : s.vm.findClass own = some m.cls) (hlink : (Cond.methodLink own index y).before args s = true) (hstat : (Cond.static y).before args s = true) (hinit : (Cond.initialized y.cls).before args s = true)
    (hcode : (Cond.codeWith y bytes maxL ret hh).before args s = true) (hy : y.cls ≠ "java/lang/invoke/MethodHandle" ∧ y.cls ≠ "java/lang/invoke/VarHandle")
    {W9 : Nat} {Pre : Pt → Array Value → Prop} {Post : Pt → Array Value → Option Value → Pt → Prop} {PostX : Pt → Array Value → Addr → Pt → Prop} (hK : vx_Back l R p e below s args y 3 W9 Pre Post PostX)
    {g : JFrame} (hg : g.method = m) (hsize : g.locals.size = c.maxLocals) {argsL rest : List Value} (hlen : ∀ sig, parseMethodDescriptor y.desc = some sig → argsL.length = sig.parameters.length)
    (hstack : g.stack = argsL.reverse ++ rest) (hW : 2 * g.monitorRoom + (rest.map fun v => v.category).sum ≤ W9) (hdg : decode c.code g.pc = .ok (.invokestatic index, 3))
    (hpre : ∀ vm₁, s.WarmedH vm₁ → Pre ⟨T.setVm vm₁, locs, cells, slots⟩ argsL.toArray) :
    (∃ (v : Option Value) (vm₁ : Vm) (B : Pt), s.WarmedH vm₁ ∧ Stand p l e R s m args below meth c B.U B.locs B.cells B.slots ∧ Post ⟨T.setVm vm₁, locs, cells, slots⟩ argsL.toArray v B ∧
      ∀ target, Steps p.tables e below (B.U.setTop { g with pc := g.pc + 3, stack := v.toList ++ rest }) target → Steps p.tables e below (T.setTop g) target) ∨
    (∃ (q : Addr) (vm₁ : Vm) (B : Pt), s.WarmedH vm₁ ∧ Stand p l e R s m args below meth c B.U B.locs B.cells B.slots ∧ PostX ⟨T.setVm vm₁, locs, cells, slots⟩ argsL.toArray q B ∧
      Steps p.tables e below (T.setTop g) ((B.U.setTop { g with stack := rest }).pushFrame (.throwing q))) := by
  obtain ⟨mk, methM, cM, hnamed, hmethM, -, -, -, -, -, -, hsigM⟩ := Cond.codeWith_spec hcode
  have hstatic : methM.isStatic = true := Cond.static_spec hnamed hmethM hstat
  obtain ⟨kP, hkP, -⟩ := className_of_methodNamed hnamed
  have hinitP : kP.init = .initialized := Cond.initialized_spec (findClass_of_methodNamed hnamed) hkP hinit
  obtain ⟨vm₁, X₁, hstep₁⟩ := X.invokestatic hexec hown hlink hnamed hmethM hstatic hkP hinitP hy (g := g) hg (argsL := argsL) (rest := rest) (hlen _ hsigM) hstack hdg
  rcases hK m meth c ⟨T.setVm vm₁, locs, cells, slots⟩ { g with stack := rest } (.invokestatic index) mk argsL.toArray X₁ hg hsize hdg hW (X₁.named hnamed) (hpre vm₁ X₁.warmed) with ⟨v, B, X', hpost, hsteps⟩ | ⟨q, B, X', hpost, hsteps⟩
  · exact Or.inl ⟨v, vm₁, B, X₁.warmed, X', hpost, fun target h => hstep₁ _ fun acts => by rw [doInvoke_state]; exact hsteps.trans h⟩
  · exact Or.inr ⟨q, vm₁, B, X₁.warmed, X', hpost, hstep₁ _ fun acts => by rw [doInvoke_state]; exact hsteps⟩
theorem vx_callVW (X : Stand p l e R s m args below meth c T locs cells slots) (hexec : p.tables.exec = Jvm.exec) {own C : String} {index : Nat} {y : MethodName} {bytes : ByteArray} {maxL : Nat} {ret : Option FieldType} {hh : List (Nat × Nat × Nat × Nat)}
    (hown : s.vm.findClass own = some m.cls) (hlink : (Cond.methodLink own index y).before args s = true) (hinst : (Cond.instanceMethod y).before args s = true) (hsel : (Cond.selects C y y).before args s = true)
    (hcode : (Cond.codeWith y bytes maxL ret hh).before args s = true) (hy : y.cls ≠ "java/lang/invoke/MethodHandle" ∧ y.cls ≠ "java/lang/invoke/VarHandle")
    {W9 : Nat} {Pre : Pt → Array Value → Prop} {Post : Pt → Array Value → Option Value → Pt → Prop} (hK : Back l R p e below s args y 3 W9 Pre Post)
    {b : Addr} {cellB : Cell} (hcell : T.heap[b]? = some cellB) (hobj : cellB.vm.isStatics = false) (hcls : s.vm.findClass C = some cellB.cls)
    {g : JFrame} (hg : g.method = m) (hsize : g.locals.size = c.maxLocals) {argsL rest : List Value} (hlen : ∀ sig, parseMethodDescriptor y.desc = some sig → argsL.length = sig.parameters.length)
    (hstack : g.stack = argsL.reverse ++ .ref b :: rest) (hW : 2 * g.monitorRoom + (rest.map fun v => v.category).sum ≤ W9) (hdg : decode c.code g.pc = .ok (.invokevirtual index, 3))
    (hpre : ∀ vm₁, s.WarmedH vm₁ → Pre ⟨T.setVm vm₁, locs, cells, slots⟩ (Value.ref b :: argsL).toArray) :
    ∃ (v : Option Value) (vm₁ : Vm) (B : Pt), s.WarmedH vm₁ ∧ Stand p l e R s m args below meth c B.U B.locs B.cells B.slots ∧ Post ⟨T.setVm vm₁, locs, cells, slots⟩ (Value.ref b :: argsL).toArray v B ∧
      ∀ target, Steps p.tables e below (B.U.setTop { g with pc := g.pc + 3, stack := v.toList ++ rest }) target → Steps p.tables e below (T.setTop g) target := by
  obtain ⟨mk, methM, hnamed, hmethM, hstM, habM⟩ := Cond.instanceMethod_spec hinst
  obtain ⟨m8, methM', cM, hn8, hmethM', -, -, -, -, -, -, hsigM⟩ := Cond.codeWith_spec hcode
  cases Option.some.inj (hn8.symm.trans hnamed)
  cases hmethM.symm.trans hmethM'
  obtain ⟨c2, r2, m2, q1, q2, q3, q4, kP, hkP, hkPi⟩ := Cond.selects_spec hsel
  cases hcls.symm.trans q1
  cases (State.methodFound?_of_named hnamed hy).symm.trans q2
  cases hnamed.symm.trans q3
  have hselP : selectMethod e.platform s.vm cellB.cls mk = .method mk := by rw [Launch.admits_selectMethod X.admits]; exact q4
  obtain ⟨vm₁, X₁, hstep₁⟩ := X.invokevirtual hexec hown hlink hnamed hmethM hstM hkP hkPi hy (a := b) (cell := cellB) hcell
    (fun z h => by rw [h] at hobj; cases hobj) hselP hmethM habM hkP hkPi (g := g) hg (argsL := argsL) (rest := rest) (hlen _ hsigM) hstack hdg
  obtain ⟨v, B, X', hpost, hsteps⟩ := hK m meth c ⟨T.setVm vm₁, locs, cells, slots⟩ { g with stack := rest } (.invokevirtual index) mk (Value.ref b :: argsL).toArray X₁ hg hsize hdg hW (X₁.named hnamed) (hpre vm₁ X₁.warmed)
  exact ⟨v, vm₁, B, X₁.warmed, X', hpost, fun target h => hstep₁ _ fun acts => by rw [doInvoke_state]; exact hsteps.trans h⟩
abbrev vx_CVW (R : Room) (s : State) (args : Array Value) (own C : String) (index : Nat) (y : MethodName) (bytes : ByteArray) (maxL : Nat) (ret : Option FieldType) (hh : List (Nat × Nat × Nat × Nat)) (ws : List Cond) (rm : Room) (mc ms n : Nat) : Prop :=
  (rm.cells = mc ∧ rm.slots = ms ∧ rm.frames + 1 ≤ R.frames ∧ 8 + (maxL + 11) + rm.locals ≤ R.locals ∧ (∀ w ∈ ws, ∀ (a' : Array Value) (U : State), s.WarmedH U.vm → w.before a' U = true) ∧ Cond.codeWith y bytes maxL ret hh ∈ ws) ∧
  (Cond.codeWith y bytes maxL ret hh).before args s = true ∧ (Cond.initialized y.cls).before args s = true ∧ (y.cls ≠ "java/lang/invoke/MethodHandle" ∧ y.cls ≠ "java/lang/invoke/VarHandle") ∧
  (∀ sig, parseMethodDescriptor y.desc = some sig → n = sig.parameters.length) ∧ (Cond.methodLink own index y).before args s = true ∧ (Cond.instanceMethod y).before args s = true ∧ (Cond.selects C y y).before args s = true
theorem vx_cwVW {own C : String} {index maxL mc ms : Nat} {y : MethodName} {bytes : ByteArray} {ret : Option FieldType} {hh : List (Nat × Nat × Nat × Nat)} {Ts ws ws' : List Cond} {rm : Room} (n : Nat) (ht : ∀ w ∈ Ts, w.before args s = true) (hT : GoodIn Ts (wsV own index C y ws)) (hw : ws = Cond.codeWith y bytes maxL ret hh :: ws') (hrc : rm.cells = mc) (hrs : rm.slots = ms)
    (hd : y.cls = C ∧ y.cls ≠ "java/lang/invoke/MethodHandle" ∧ y.cls ≠ "java/lang/invoke/VarHandle" ∧ (parseMethodDescriptor y.desc).map (fun d => d.parameters.length) = some n) (hR : rm.frames + 1 ≤ R.frames ∧ 8 + (maxL + 11) + rm.locals ≤ R.locals) :
    vx_CVW R s args own C index y bytes maxL ret hh ws rm mc ms n := by
  obtain ⟨hC, hd⟩ := hd
  subst hC
  have ok : ∀ w ∈ wsV own index y.cls y ws, w.before args s = true := fun w h => ht w (hT w h).1
  have hG : GoodIn Ts ws := fun w h => hT w (by unfold wsV; exact List.mem_append_right _ h)
  have hc : Cond.codeWith y bytes maxL ret hh ∈ ws := by rw [hw]; exact List.mem_cons_self
  refine ⟨⟨hrc, hrs, hR.1, hR.2, pay_in ht hG, hc⟩, ht _ (hG _ hc).1, ok _ (by simp [wsV]), ⟨hd.1, hd.2.1⟩, fun sig h => ?_, ok _ (by simp [wsV]), ok _ (by simp [wsV]), ok _ (by simp [wsV])⟩
  have h2 := hd.2.2
  rw [h] at h2
  exact (Option.some.inj h2).symm
theorem vx_runVW {y : MethodName} {bytes cc : ByteArray} {maxL nL mc ms n index : Nat} {ret : Option FieldType} {hh : List (Nat × Nat × Nat × Nat)} {ws : List Cond} {rm : Room} {Pc : Array Value → State → Prop} {Qc : Array Value → State → Outcome → State → Prop} {free : Addr → Prop} {Ts : List Cond} {own C : String} {b : Addr} {As rest : List Value} {g : JFrame}
    (S : CallFix p m c cc nL s args Ts own) (hM : Met l y ws rm Pc Qc mc ms free) (cw : vx_CVW R s args own C index y bytes maxL ret hh ws rm mc ms n) (hp : PreV s H C b Pc As)
    (hg : g.method = m) (hn : As.length = n) (hsize : g.locals.size = nL) (hstack : g.stack = As.reverse ++ .ref b :: rest) (hW : 2 * g.monitorRoom + (rest.map fun v => v.category).sum ≤ 8) (hdg : decode cc g.pc = .ok (.invokevirtual index, 3)) (hf : cells + mc ≤ R.cells ∧ slots + ms ≤ R.slots) :
    va_Run p l e R s m args below meth c H locs cells slots mc ms g rest (Qc (Value.ref b :: As).toArray) free := by
  obtain ⟨⟨hrc, hrs, hfr, hlo, hws, hcw⟩, hcode, hini, hy, hlen, hl, hin, hse⟩ := cw
  have hK : Back l R p e below s args y 3 8 (PreOf R mc ms Pc) (PostOf Qc mc ms free) := va_backW (hh := hh) (bytes := bytes) (maxL := maxL) (ret := ret) hM hp.1 hrc hrs hfr hlo hws hcw (fun a' U hW => word_at hW (Or.inl (by first | rfl | simp [Cond.onTables, Cond.keeps, Cond.steady])) hini)
  obtain ⟨hx, hb, hml, ho, -⟩ := S
  obtain ⟨-, ⟨cellB, hcB, hoB, hclB⟩, hPc⟩ := hp
  intro T hT X
  obtain ⟨v, vm₁, ⟨U', l2, c2, s2⟩, hW₁, X', ⟨g', mk, t, L, e1, e2, hq, h1, hL, h2, h3⟩, st⟩ := vx_callVW X hx (C := C) (hh := hh) (bytes := bytes) (maxL := maxL) (ret := ret) ho hl hin hse hcode hy hK (by rw [hT]; exact hcB) hoB hclB hg (hsize.trans hml.symm) (argsL := As) (rest := rest) (fun sig h => hn.trans (hlen sig h)) hstack hW (by rw [hb]; exact hdg)
    (fun vm₁ hW₁ => ⟨hf.1, hf.2, hPc (T.setVm vm₁) hT hW₁⟩)
  dsimp only [Pt.U, Pt.locs, Pt.cells, Pt.slots] at X' e1 e2 h1 h2 h3 st
  subst h1; subst h2; subst h3
  exact ⟨v, (T.setVm vm₁).calling g' mk (Value.ref b :: As).toArray, t, U', L, hT, X', hL, e1, e2, hq, st⟩
section
variable {y : MethodName} {bytes cc : ByteArray} {maxL nL mc ms n index : Nat} {ret : Option FieldType} {ws : List Cond} {rm : Room} {Pc : Array Value → State → Prop} {Qc : Array Value → State → Outcome → State → Prop} {XC : String → State → State → Prop} {free : Addr → Prop} {Ts : List Cond} {own C : String} {b : Addr} {As rest : List Value} {g : JFrame}
theorem vx_runVX {hh : List (Nat × Nat × Nat × Nat)} (S : CallFix p m c cc nL s args Ts own) (hM : vx_Met l y ws rm Pc Qc XC mc ms free) (cw : vx_CVW R s args own C index y bytes maxL ret hh ws rm mc ms n) (hp : PreV s H C b Pc As)
    (hg : g.method = m) (hn : As.length = n) (hsize : g.locals.size = nL) (hstack : g.stack = As.reverse ++ .ref b :: rest) (hW : 2 * g.monitorRoom + (rest.map fun v => v.category).sum ≤ 8) (hdg : decode cc g.pc = .ok (.invokevirtual index, 3)) (hf : cells + mc ≤ R.cells ∧ slots + ms ≤ R.slots) :
    vx_Run p l e R s m args below meth c H locs cells slots mc ms g rest (Qc (Value.ref b :: As).toArray) XC free := by
  obtain ⟨⟨hrc, hrs, hfr, hlo, hws, hcw⟩, hcode, hini, hy, hlen, hl, hin, hse⟩ := cw
  have hK : vx_Back l R p e below s args y 3 8 (PreOf R mc ms Pc) (PostOf Qc mc ms free) (vx_Post XC mc ms free) := vx_backW (hh := hh) (bytes := bytes) (maxL := maxL) (ret := ret) hM hp.1 hrc hrs hfr hlo hws hcw (fun a' U hW => word_at hW (Or.inl (by first | rfl | simp [Cond.onTables, Cond.keeps, Cond.steady])) hini)
  obtain ⟨hx, hb, hml, ho, -⟩ := S
  obtain ⟨-, ⟨cellB, hcB, hoB, hclB⟩, hPc⟩ := hp
  intro T hT X
  rcases vx_callVX X hx (C := C) (hh := hh) (bytes := bytes) (maxL := maxL) (ret := ret) ho hl hin hse hcode hy hK (by rw [hT]; exact hcB) hoB hclB hg (hsize.trans hml.symm) (argsL := As) (rest := rest) (fun sig h => hn.trans (hlen sig h)) hstack hW (by rw [hb]; exact hdg)
    (fun vm₁ hW₁ => ⟨hf.1, hf.2, hPc (T.setVm vm₁) hT hW₁⟩) with ⟨v, vm₁, ⟨U', l2, c2, s2⟩, hW₁, X', ⟨g', mk, t, L, e1, e2, hq, h1, hL, h2, h3⟩, st⟩ | ⟨q, vm₁, ⟨U', l2, c2, s2⟩, hW₁, X', ⟨g', mk, t, L, E, ce, e1, e2, hq, hce, hcv, hcl, h1, hL, h2, h3⟩, st⟩
  · dsimp only [Pt.U, Pt.locs, Pt.cells, Pt.slots] at X' e1 e2 h1 h2 h3 st
    subst h1; subst h2; subst h3
    exact Or.inl ⟨v, (T.setVm vm₁).calling g' mk (Value.ref b :: As).toArray, t, U', L, hT, X', hL, e1, e2, hq, st⟩
  · dsimp only [Pt.U, Pt.locs, Pt.cells, Pt.slots] at X' e1 e2 h1 h2 h3 st hcl
    subst h1; subst h2; subst h3
    exact Or.inr ⟨q, (T.setVm vm₁).calling g' mk (Value.ref b :: As).toArray, t, U', L, E, ce, hT, X', hL, e1, e2, hq, hce, hcv, vx_cls hW₁ hcl, st⟩
theorem vx_runSX {hh : List (Nat × Nat × Nat × Nat)} (S : CallFix p m c cc nL s args Ts own) (hM : vx_Met l y ws rm Pc Qc XC mc ms free) (cw : vx_CSW R s args own index y bytes maxL ret hh ws rm mc ms n) (hp : PreS s H Pc As)
    (hg : g.method = m) (hn : As.length = n) (hsize : g.locals.size = nL) (hstack : g.stack = As.reverse ++ rest) (hW : 2 * g.monitorRoom + (rest.map fun v => v.category).sum ≤ 8) (hdg : decode cc g.pc = .ok (.invokestatic index, 3)) (hf : cells + mc ≤ R.cells ∧ slots + ms ≤ R.slots) :
    vx_Run p l e R s m args below meth c H locs cells slots mc ms g rest (Qc As.toArray) XC free := by
  obtain ⟨⟨hrc, hrs, hfr, hlo, hws, hcw⟩, hcode, hini, hy, hlen, hl, hstt⟩ := cw
  have hK : vx_Back l R p e below s args y 3 8 (PreOf R mc ms Pc) (PostOf Qc mc ms free) (vx_Post XC mc ms free) := vx_backW (hh := hh) (bytes := bytes) (maxL := maxL) (ret := ret) hM hp.1 hrc hrs hfr hlo hws hcw (fun a' U hW => word_at hW (Or.inl (by first | rfl | simp [Cond.onTables, Cond.keeps, Cond.steady])) hini)
  obtain ⟨hx, hb, hml, ho, -⟩ := S
  intro T hT X
  rcases vx_callSX X hx (hh := hh) (bytes := bytes) (maxL := maxL) (ret := ret) ho hl hstt hini hcode hy hK hg (hsize.trans hml.symm) (argsL := As) (rest := rest) (fun sig h => hn.trans (hlen sig h)) hstack hW (by rw [hb]; exact hdg)
    (fun vm₁ hW₁ => ⟨hf.1, hf.2, hp.2 (T.setVm vm₁) hT hW₁⟩) with ⟨v, vm₁, ⟨U', l2, c2, s2⟩, hW₁, X', ⟨g', mk, t, L, e1, e2, hq, h1, hL, h2, h3⟩, st⟩ | ⟨q, vm₁, ⟨U', l2, c2, s2⟩, hW₁, X', ⟨g', mk, t, L, E, ce, e1, e2, hq, hce, hcv, hcl, h1, hL, h2, h3⟩, st⟩
  · dsimp only [Pt.U, Pt.locs, Pt.cells, Pt.slots] at X' e1 e2 h1 h2 h3 st
    subst h1; subst h2; subst h3
    exact Or.inl ⟨v, (T.setVm vm₁).calling g' mk As.toArray, t, U', L, hT, X', hL, e1, e2, hq, st⟩
  · dsimp only [Pt.U, Pt.locs, Pt.cells, Pt.slots] at X' e1 e2 h1 h2 h3 st hcl
    subst h1; subst h2; subst h3
    exact Or.inr ⟨q, (T.setVm vm₁).calling g' mk As.toArray, t, U', L, E, ce, hT, X', hL, e1, e2, hq, hce, hcv, vx_cls hW₁ hcl, st⟩
end
end VXH
theorem vx_ofWH {l : Launch} {y : MethodName} {ws ws' : List Cond} {rm : Room} {Pc : Array Value → State → Prop} {Qc : Array Value → State → Outcome → State → Prop} {XC : String → State → State → Prop} {mc ms : Nat} {free : Addr → Prop} {cc : ByteArray} {maxL : Nat} {ret : Option FieldType} {hh : List (Nat × Nat × Nat × Nat)}
    (hy : plainName y.cls = true) (hw : ws = Cond.codeWith y cc maxL ret hh :: ws')
    (body : ∀ p e s m args below meth c s₁, BodyLoose p l y (headSpec ws rm) cc maxL ret e s m args below meth c s₁ → c.maxLocals = maxL → Pc args s →
      W p l e (headSpec ws rm).room s m args below meth c s.heap [] 0 0 (vx_MQ below Qc XC args s mc ms free) (entryFrame m args maxL)) : vx_Met l y ws rm Pc Qc XC mc ms free := by
  refine MetFree.of_bodyS (code := cc) (maxLocals := maxL) (ret := ret) hy ?_ ?_
  · intro args s m h hn
    obtain ⟨m9, meth, c, hn9, h1, h2, h3, h4, -, h5, h6, -⟩ := Cond.codeWith_spec (atoms_spec (ws := ws) h _ (by rw [hw]; exact List.mem_cons_self))
    cases hn.symm.trans hn9
    exact ⟨meth, c, h1, h2, h3, h4, h5, h6⟩
  · intro p e s m args below meth c s₁ B hml hP _
    have hh0 : s₁.heap = s.heap := by rw [B.state]; rfl
    obtain ⟨t, a1, o, b1, b2, b3⟩ := body p e s m args below meth c s₁ B hml hP s₁ hh0 (Stand.of_body B)
    exact ⟨t, o, a1, b1, b2, b3⟩
/-! ===== END ===== -/
end
section
/-! NAMES: written by program out of the Statement, NAMES.json and the listing -/
def R_T : String := "LinearRows$Table"
def R_S : String := "LinearRows$Shape"
def R_X : String := "LinearRows"
def R_M : String := "LinearRowsModel"
def R_L : String := "LinearRowsLaw"
def R_JM : String := "java/lang/Math"
def R_JA : String := "java/util/Arrays"
def F_T : u_T := fun k => match k with
  | 0 => ("LinearRows$Table", "size", "I", true)
  | _ => ("LinearRows$Table", "cells", "[J", true)
def tt_T : Nat → FieldType := fun k => match k with
  | 0 => .int
  | _ => .array .long
theorem n_T : ∀ a, a < 2 → ∀ b, b < 2 → a ≠ b → (F_T a).2.1 ≠ (F_T b).2.1 := by decide +kernel
theorem tt_T_ok : ∀ k, k < 2 → parseFieldDescriptor (F_T k).2.2.1 = some (tt_T k) := by decide +kernel
def F_S : u_T := fun k => match k with
  | 0 => ("LinearRows$Shape", "size", "I", true)
  | 1 => ("LinearRows$Shape", "keptRows", "LLinearRows$Table;", true)
  | 2 => ("LinearRows$Shape", "bounds", "LLinearRows$Table;", true)
  | _ => ("LinearRows$Shape", "empty", "Z", false)
def tt_S : Nat → FieldType := fun k => match k with
  | 0 => .int
  | 1 => .object "LinearRows$Table"
  | 2 => .object "LinearRows$Table"
  | _ => .boolean
theorem n_S : ∀ a, a < 4 → ∀ b, b < 4 → a ≠ b → (F_S a).2.1 ≠ (F_S b).2.1 := by decide +kernel
theorem tt_S_ok : ∀ k, k < 4 → parseFieldDescriptor (F_S k).2.2.1 = some (tt_S k) := by decide +kernel
def F_X : u_T := fun k => match k with
  | 0 => ("LinearRows", "names", "I", true)
  | 1 => ("LinearRows", "places", "I", true)
  | 2 => ("LinearRows", "shapes", "[LLinearRows$Shape;", true)
  | 3 => ("LinearRows", "made", "LLinearRows$Shape;", true)
  | 4 => ("LinearRows", "left", "LLinearRows$Table;", true)
  | 5 => ("LinearRows", "trial", "LLinearRows$Table;", true)
  | 6 => ("LinearRows", "numbers", "[J", true)
  | 7 => ("LinearRows", "neededRows", "[J", true)
  | _ => ("LinearRows", "neededCount", "I", false)
def tt_X : Nat → FieldType := fun k => match k with
  | 0 => .int
  | 1 => .int
  | 2 => .array (.object "LinearRows$Shape")
  | 3 => .object "LinearRows$Shape"
  | 4 => .object "LinearRows$Table"
  | 5 => .object "LinearRows$Table"
  | 6 => .array .long
  | 7 => .array .long
  | _ => .int
theorem n_X : ∀ a, a < 9 → ∀ b, b < 9 → a ≠ b → (F_X a).2.1 ≠ (F_X b).2.1 := by decide +kernel
theorem tt_X_ok : ∀ k, k < 9 → parseFieldDescriptor (F_X k).2.2.1 = some (tt_X k) := by decide +kernel
def F_M : u_T := fun k => match k with
  | 0 => ("LinearRowsModel", "thrown", "I", false)
  | 1 => ("LinearRowsModel", "n", "I", true)
  | 2 => ("LinearRowsModel", "rows", "[J", true)
  | 3 => ("LinearRowsModel", "isEmpty", "[Z", true)
  | 4 => ("LinearRowsModel", "d", "[J", true)
  | 5 => ("LinearRowsModel", "other", "[J", true)
  | 6 => ("LinearRowsModel", "made", "[J", true)
  | 7 => ("LinearRowsModel", "point", "[J", true)
  | 8 => ("LinearRowsModel", "needMany", "I", false)
  | 9 => ("LinearRowsModel", "needA", "[I", true)
  | 10 => ("LinearRowsModel", "needB", "[I", true)
  | 11 => ("LinearRowsModel", "needC", "[J", true)
  | _ => ("LinearRowsModel", "isLeft", "[Z", true)
def tt_M : Nat → FieldType := fun k => match k with
  | 0 => .int
  | 1 => .int
  | 2 => .array .long
  | 3 => .array .boolean
  | 4 => .array .long
  | 5 => .array .long
  | 6 => .array .long
  | 7 => .array .long
  | 8 => .int
  | 9 => .array .int
  | 10 => .array .int
  | 11 => .array .long
  | _ => .array .boolean
theorem n_M : ∀ a, a < 13 → ∀ b, b < 13 → a ≠ b → (F_M a).2.1 ≠ (F_M b).2.1 := by decide +kernel
theorem tt_M_ok : ∀ k, k < 13 → parseFieldDescriptor (F_M k).2.2.1 = some (tt_M k) := by decide +kernel
abbrev classes : List vw_C := [(R_T, F_T, 2), (R_S, F_S, 4), (R_X, F_X, 9), (R_M, F_M, 13)]
def wG : List Cond := lw_tbl.filter goodWord
abbrev b_X_init : ByteArray := prog_1_method_1_code
def y_X_init : MethodName := ⟨R_X, "<init>", "(I)V"⟩
abbrev w_X_init : List Cond := .code y_X_init b_X_init 3 none :: wG
abbrev b_X_all : ByteArray := prog_1_method_2_code
def y_X_all : MethodName := ⟨R_X, "all", "(I)V"⟩
abbrev w_X_all : List Cond := .code y_X_all b_X_all 2 none :: wG
abbrev b_X_row : ByteArray := prog_1_method_3_code
def y_X_row : MethodName := ⟨R_X, "row", "(IIIJ)I"⟩
abbrev w_X_row : List Cond := .code y_X_row b_X_row 6 (some .int) :: wG
abbrev b_X_bound : ByteArray := prog_1_method_4_code
def y_X_bound : MethodName := ⟨R_X, "bound", "(III)J"⟩
abbrev w_X_bound : List Cond := .code y_X_bound b_X_bound 4 (some .long) :: wG
abbrev b_X_kept : ByteArray := prog_1_method_5_code
def y_X_kept : MethodName := ⟨R_X, "kept", "(III)J"⟩
abbrev w_X_kept : List Cond := .code y_X_kept b_X_kept 4 (some .long) :: wG
abbrev b_X_meet : ByteArray := prog_1_method_6_code
def y_X_meet : MethodName := ⟨R_X, "meet", "(III)I"⟩
abbrev w_X_meet : List Cond := .code y_X_meet b_X_meet 4 (some .int) :: wG
abbrev b_X_join : ByteArray := prog_1_method_7_code
def y_X_join : MethodName := ⟨R_X, "join", "(III)I"⟩
abbrev w_X_join : List Cond := .code y_X_join b_X_join 4 (some .int) :: wG
abbrev b_X_widen : ByteArray := prog_1_method_8_code
def y_X_widen : MethodName := ⟨R_X, "widen", "(III)I"⟩
abbrev w_X_widen : List Cond := .code y_X_widen b_X_widen 4 (some .int) :: wG
abbrev b_X_narrow : ByteArray := prog_1_method_9_code
def y_X_narrow : MethodName := ⟨R_X, "narrow", "(III)I"⟩
abbrev w_X_narrow : List Cond := .code y_X_narrow b_X_narrow 4 (some .int) :: wG
abbrev b_X_copy : ByteArray := prog_1_method_10_code
def y_X_copy : MethodName := ⟨R_X, "copy", "(II)V"⟩
abbrev w_X_copy : List Cond := .code y_X_copy b_X_copy 3 none :: wG
abbrev b_X_set : ByteArray := prog_1_method_11_code
def y_X_set : MethodName := ⟨R_X, "set", "(IIIJ)I"⟩
abbrev w_X_set : List Cond := .code y_X_set b_X_set 6 (some .int) :: wG
abbrev b_X_forget : ByteArray := prog_1_method_12_code
def y_X_forget : MethodName := ⟨R_X, "forget", "(II)I"⟩
abbrev w_X_forget : List Cond := .code y_X_forget b_X_forget 3 (some .int) :: wG
abbrev b_X_within : ByteArray := prog_1_method_13_code
def y_X_within : MethodName := ⟨R_X, "within", "(II)Z"⟩
abbrev w_X_within : List Cond := .code y_X_within b_X_within 3 (some .boolean) :: wG
abbrev b_X_put : ByteArray := prog_1_method_14_code
def y_X_put : MethodName := ⟨R_X, "put", "(IJ)J"⟩
abbrev w_X_put : List Cond := .code y_X_put b_X_put 6 (some .long) :: wG
abbrev b_X_point : ByteArray := prog_1_method_15_code
def y_X_point : MethodName := ⟨R_X, "point", "(I)J"⟩
abbrev w_X_point : List Cond := .code y_X_point b_X_point 2 (some .long) :: wG
abbrev b_X_has : ByteArray := prog_1_method_16_code
def y_X_has : MethodName := ⟨R_X, "has", "(I)Z"⟩
abbrev w_X_has : List Cond := .code y_X_has b_X_has 4 (some .boolean) :: wG
abbrev b_X_sample : ByteArray := prog_1_method_17_code
def y_X_sample : MethodName := ⟨R_X, "sample", "(I)Z"⟩
abbrev w_X_sample : List Cond := .code y_X_sample b_X_sample 3 (some .boolean) :: wG
abbrev b_X_needed : ByteArray := prog_1_method_18_code
def y_X_needed : MethodName := ⟨R_X, "needed", "(I)I"⟩
abbrev w_X_needed : List Cond := .code y_X_needed b_X_needed 2 (some .int) :: wG
abbrev b_X_needs : ByteArray := prog_1_method_19_code
def y_X_needs : MethodName := ⟨R_X, "needs", "(II)J"⟩
abbrev w_X_needs : List Cond := .code y_X_needs b_X_needs 3 (some .long) :: wG
abbrev b_X_fits : ByteArray := prog_1_method_20_code
def y_X_fits : MethodName := ⟨R_X, "fits", "(III)Z"⟩
abbrev w_X_fits : List Cond := .code y_X_fits b_X_fits 6 (some .boolean) :: wG
abbrev b_X_array : ByteArray := prog_1_method_21_code
def y_X_array : MethodName := ⟨R_X, "array", "(III)I"⟩
abbrev w_X_array : List Cond := .code y_X_array b_X_array 5 (some .int) :: wG
abbrev b_X_told : ByteArray := prog_1_method_22_code
def y_X_told : MethodName := ⟨R_X, "told", "(I)I"⟩
abbrev w_X_told : List Cond := .code y_X_told b_X_told 2 (some .int) :: wG
abbrev b_X_checkShape : ByteArray := prog_1_method_23_code
def y_X_checkShape : MethodName := ⟨R_X, "checkShape", "(I)V"⟩
abbrev w_X_checkShape : List Cond := .code y_X_checkShape b_X_checkShape 1 none :: wG
abbrev b_X_checkShapes : ByteArray := prog_1_method_24_code
def y_X_checkShapes : MethodName := ⟨R_X, "checkShapes", "(III)V"⟩
abbrev w_X_checkShapes : List Cond := .code y_X_checkShapes b_X_checkShapes 3 none :: wG
abbrev b_X_checkName : ByteArray := prog_1_method_25_code
def y_X_checkName : MethodName := ⟨R_X, "checkName", "(I)V"⟩
abbrev w_X_checkName : List Cond := .code y_X_checkName b_X_checkName 2 none :: wG
abbrev b_X_checkTerm : ByteArray := prog_1_method_26_code
def y_X_checkTerm : MethodName := ⟨R_X, "checkTerm", "(I)V"⟩
abbrev w_X_checkTerm : List Cond := .code y_X_checkTerm b_X_checkTerm 2 none :: wG
abbrev b_X_checkGiven : ByteArray := prog_1_method_27_code
def y_X_checkGiven : MethodName := ⟨R_X, "checkGiven", "(J)V"⟩
abbrev w_X_checkGiven : List Cond := .code y_X_checkGiven b_X_checkGiven 2 none :: wG
abbrev b_X_placeOf : ByteArray := prog_1_method_28_code
def y_X_placeOf : MethodName := ⟨R_X, "placeOf", "(I)I"⟩
abbrev w_X_placeOf : List Cond := .code y_X_placeOf b_X_placeOf 1 (some .int) :: wG
abbrev b_X_termAt : ByteArray := prog_1_method_29_code
def y_X_termAt : MethodName := ⟨R_X, "termAt", "(I)I"⟩
abbrev w_X_termAt : List Cond := .code y_X_termAt b_X_termAt 2 (some .int) :: wG
abbrev b_X_placeOfNextName : ByteArray := prog_1_method_30_code
def y_X_placeOfNextName : MethodName := ⟨R_X, "placeOfNextName", "(I)I"⟩
abbrev w_X_placeOfNextName : List Cond := .code y_X_placeOfNextName b_X_placeOfNextName 1 (some .int) :: wG
abbrev b_X_plus : ByteArray := prog_1_method_31_code
def y_X_plus : MethodName := ⟨R_X, "plus", "(JJ)J"⟩
abbrev w_X_plus : List Cond := .code y_X_plus b_X_plus 4 (some .long) :: wG
abbrev b_X_takeMade : ByteArray := prog_1_method_32_code
def y_X_takeMade : MethodName := ⟨R_X, "takeMade", "(I)I"⟩
abbrev w_X_takeMade : List Cond := .code y_X_takeMade b_X_takeMade 2 (some .int) :: wG
abbrev b_X_countEmpty : ByteArray := prog_1_method_33_code
def y_X_countEmpty : MethodName := ⟨R_X, "countEmpty", "()I"⟩
abbrev w_X_countEmpty : List Cond := .code y_X_countEmpty b_X_countEmpty 3 (some .int) :: wG
abbrev b_X_numberAt : ByteArray := prog_1_method_34_code
def y_X_numberAt : MethodName := ⟨R_X, "numberAt", "(I)J"⟩
abbrev w_X_numberAt : List Cond := .code y_X_numberAt b_X_numberAt 4 (some .long) :: wG
abbrev b_X_sampleNumber : ByteArray := prog_1_method_35_code
def y_X_sampleNumber : MethodName := ⟨R_X, "sampleNumber", "(LLinearRows$Table;I)J"⟩
abbrev w_X_sampleNumber : List Cond := .code y_X_sampleNumber b_X_sampleNumber 7 (some .long) :: wG
abbrev b_X_greatestBeside : ByteArray := prog_1_method_36_code
def y_X_greatestBeside : MethodName := ⟨R_X, "greatestBeside", "(LLinearRows$Table;I)J"⟩
abbrev w_X_greatestBeside : List Cond := .code y_X_greatestBeside b_X_greatestBeside 7 (some .long) :: wG
abbrev b_X_leaveOutPairs : ByteArray := prog_1_method_37_code
def y_X_leaveOutPairs : MethodName := ⟨R_X, "leaveOutPairs", "()V"⟩
abbrev w_X_leaveOutPairs : List Cond := .code y_X_leaveOutPairs b_X_leaveOutPairs 3 none :: wG
abbrev b_X_leaveOutSingles : ByteArray := prog_1_method_38_code
def y_X_leaveOutSingles : MethodName := ⟨R_X, "leaveOutSingles", "()V"⟩
abbrev w_X_leaveOutSingles : List Cond := .code y_X_leaveOutSingles b_X_leaveOutSingles 2 none :: wG
abbrev b_X_leaveOutUnlessNeeded : ByteArray := prog_1_method_39_code
def y_X_leaveOutUnlessNeeded : MethodName := ⟨R_X, "leaveOutUnlessNeeded", "(II)V"⟩
abbrev w_X_leaveOutUnlessNeeded : List Cond := .code y_X_leaveOutUnlessNeeded b_X_leaveOutUnlessNeeded 5 none :: wG
abbrev b_X_tellLeftRows : ByteArray := prog_1_method_40_code
def y_X_tellLeftRows : MethodName := ⟨R_X, "tellLeftRows", "()V"⟩
abbrev w_X_tellLeftRows : List Cond := .code y_X_tellLeftRows b_X_tellLeftRows 3 none :: wG
abbrev b_X_tellRow : ByteArray := prog_1_method_41_code
def y_X_tellRow : MethodName := ⟨R_X, "tellRow", "(IIJ)V"⟩
abbrev w_X_tellRow : List Cond := .code y_X_tellRow b_X_tellRow 6 none :: wG
abbrev b_M_init : ByteArray := prog_5_method_1_code
def y_M_init : MethodName := ⟨R_M, "<init>", "(I)V"⟩
abbrev w_M_init : List Cond := .code y_M_init b_M_init 3 none :: wG
abbrev b_M_thrown : ByteArray := prog_5_method_2_code
def y_M_thrown : MethodName := ⟨R_M, "thrown", "()I"⟩
abbrev w_M_thrown : List Cond := .code y_M_thrown b_M_thrown 1 (some .int) :: wG
abbrev b_M_isShape : ByteArray := prog_5_method_3_code
def y_M_isShape : MethodName := ⟨R_M, "isShape", "(I)Z"⟩
abbrev w_M_isShape : List Cond := .code y_M_isShape b_M_isShape 2 (some .boolean) :: wG
abbrev b_M_isName : ByteArray := prog_5_method_4_code
def y_M_isName : MethodName := ⟨R_M, "isName", "(I)Z"⟩
abbrev w_M_isName : List Cond := .code y_M_isName b_M_isName 2 (some .boolean) :: wG
abbrev b_M_isTerm : ByteArray := prog_5_method_5_code
def y_M_isTerm : MethodName := ⟨R_M, "isTerm", "(I)Z"⟩
abbrev w_M_isTerm : List Cond := .code y_M_isTerm b_M_isTerm 2 (some .boolean) :: wG
abbrev b_M_at : ByteArray := prog_5_method_6_code
def y_M_at : MethodName := ⟨R_M, "at", "(I)I"⟩
abbrev w_M_at : List Cond := .code y_M_at b_M_at 1 (some .int) :: wG
abbrev b_M_opposite : ByteArray := prog_5_method_7_code
def y_M_opposite : MethodName := ⟨R_M, "opposite", "(I)I"⟩
abbrev w_M_opposite : List Cond := .code y_M_opposite b_M_opposite 1 (some .int) :: wG
abbrev b_M_half : ByteArray := prog_5_method_8_code
def y_M_half : MethodName := ⟨R_M, "half", "(J)J"⟩
abbrev w_M_half : List Cond := .code y_M_half b_M_half 2 (some .long) :: wG
abbrev b_M_sum : ByteArray := prog_5_method_9_code
def y_M_sum : MethodName := ⟨R_M, "sum", "(JJ)J"⟩
abbrev w_M_sum : List Cond := .code y_M_sum b_M_sum 4 (some .long) :: wG
abbrev b_M_loadRows : ByteArray := prog_5_method_10_code
def y_M_loadRows : MethodName := ⟨R_M, "loadRows", "(I)V"⟩
abbrev w_M_loadRows : List Cond := .code y_M_loadRows b_M_loadRows 3 none :: wG
abbrev b_M_close : ByteArray := prog_5_method_11_code
def y_M_close : MethodName := ⟨R_M, "close", "()Z"⟩
abbrev w_M_close : List Cond := .code y_M_close b_M_close 8 (some .boolean) :: wG
abbrev b_M_isFar : ByteArray := prog_5_method_12_code
def y_M_isFar : MethodName := ⟨R_M, "isFar", "()Z"⟩
abbrev w_M_isFar : List Cond := .code y_M_isFar b_M_isFar 7 (some .boolean) :: wG
abbrev b_M_closeMade : ByteArray := prog_5_method_13_code
def y_M_closeMade : MethodName := ⟨R_M, "closeMade", "()Z"⟩
abbrev w_M_closeMade : List Cond := .code y_M_closeMade b_M_closeMade 5 (some .boolean) :: wG
abbrev b_M_keepMade : ByteArray := prog_5_method_14_code
def y_M_keepMade : MethodName := ⟨R_M, "keepMade", "(I)V"⟩
abbrev w_M_keepMade : List Cond := .code y_M_keepMade b_M_keepMade 4 none :: wG
abbrev b_M_closeShape : ByteArray := prog_5_method_15_code
def y_M_closeShape : MethodName := ⟨R_M, "closeShape", "(I)Z"⟩
abbrev w_M_closeShape : List Cond := .code y_M_closeShape b_M_closeShape 2 (some .boolean) :: wG
abbrev b_M_copyTable : ByteArray := prog_5_method_16_code
def y_M_copyTable : MethodName := ⟨R_M, "copyTable", "(Z)V"⟩
abbrev w_M_copyTable : List Cond := .code y_M_copyTable b_M_copyTable 3 none :: wG
abbrev b_M_none : ByteArray := prog_5_method_17_code
def y_M_none : MethodName := ⟨R_M, "none", "(I)V"⟩
abbrev w_M_none : List Cond := .code y_M_none b_M_none 3 none :: wG
abbrev b_M_keepClosed : ByteArray := prog_5_method_18_code
def y_M_keepClosed : MethodName := ⟨R_M, "keepClosed", "(IZ)I"⟩
abbrev w_M_keepClosed : List Cond := .code y_M_keepClosed b_M_keepClosed 7 (some .int) :: wG
abbrev b_M_addRow : ByteArray := prog_5_method_19_code
def y_M_addRow : MethodName := ⟨R_M, "addRow", "(IIJ)V"⟩
abbrev w_M_addRow : List Cond := .code y_M_addRow b_M_addRow 9 none :: wG
abbrev b_M_boundOf : ByteArray := prog_5_method_20_code
def y_M_boundOf : MethodName := ⟨R_M, "boundOf", "(II)J"⟩
abbrev w_M_boundOf : List Cond := .code y_M_boundOf b_M_boundOf 5 (some .long) :: wG
abbrev b_M_all : ByteArray := prog_5_method_21_code
def y_M_all : MethodName := ⟨R_M, "all", "(I)V"⟩
abbrev w_M_all : List Cond := .code y_M_all b_M_all 2 none :: wG
abbrev b_M_isSmall : ByteArray := prog_5_method_22_code
def y_M_isSmall : MethodName := ⟨R_M, "isSmall", "(J)Z"⟩
abbrev w_M_isSmall : List Cond := .code y_M_isSmall b_M_isSmall 2 (some .boolean) :: wG
abbrev b_M_row : ByteArray := prog_5_method_23_code
def y_M_row : MethodName := ⟨R_M, "row", "(IIIJ)I"⟩
abbrev w_M_row : List Cond := .code y_M_row b_M_row 12 (some .int) :: wG
abbrev b_M_bound : ByteArray := prog_5_method_24_code
def y_M_bound : MethodName := ⟨R_M, "bound", "(III)J"⟩
abbrev w_M_bound : List Cond := .code y_M_bound b_M_bound 4 (some .long) :: wG
abbrev b_M_kept : ByteArray := prog_5_method_25_code
def y_M_kept : MethodName := ⟨R_M, "kept", "(III)J"⟩
abbrev w_M_kept : List Cond := .code y_M_kept b_M_kept 4 (some .long) :: wG
abbrev b_M_areShapes : ByteArray := prog_5_method_26_code
def y_M_areShapes : MethodName := ⟨R_M, "areShapes", "(III)Z"⟩
abbrev w_M_areShapes : List Cond := .code y_M_areShapes b_M_areShapes 4 (some .boolean) :: wG
abbrev b_M_meet : ByteArray := prog_5_method_27_code
def y_M_meet : MethodName := ⟨R_M, "meet", "(III)I"⟩
abbrev w_M_meet : List Cond := .code y_M_meet b_M_meet 5 (some .int) :: wG
abbrev b_M_join : ByteArray := prog_5_method_28_code
def y_M_join : MethodName := ⟨R_M, "join", "(III)I"⟩
abbrev w_M_join : List Cond := .code y_M_join b_M_join 7 (some .int) :: wG
abbrev b_M_widen : ByteArray := prog_5_method_29_code
def y_M_widen : MethodName := ⟨R_M, "widen", "(III)I"⟩
abbrev w_M_widen : List Cond := .code y_M_widen b_M_widen 11 (some .int) :: wG
abbrev b_M_narrow : ByteArray := prog_5_method_30_code
def y_M_narrow : MethodName := ⟨R_M, "narrow", "(III)I"⟩
abbrev w_M_narrow : List Cond := .code y_M_narrow b_M_narrow 12 (some .int) :: wG
abbrev b_M_copyRows : ByteArray := prog_5_method_31_code
def y_M_copyRows : MethodName := ⟨R_M, "copyRows", "(II)V"⟩
abbrev w_M_copyRows : List Cond := .code y_M_copyRows b_M_copyRows 4 none :: wG
abbrev b_M_copy : ByteArray := prog_5_method_32_code
def y_M_copy : MethodName := ⟨R_M, "copy", "(II)V"⟩
abbrev w_M_copy : List Cond := .code y_M_copy b_M_copy 3 none :: wG
abbrev b_M_drop : ByteArray := prog_5_method_33_code
def y_M_drop : MethodName := ⟨R_M, "drop", "(I)V"⟩
abbrev w_M_drop : List Cond := .code y_M_drop b_M_drop 4 none :: wG
abbrev b_M_set : ByteArray := prog_5_method_34_code
def y_M_set : MethodName := ⟨R_M, "set", "(IIIJ)I"⟩
abbrev w_M_set : List Cond := .code y_M_set b_M_set 7 (some .int) :: wG
abbrev b_M_turn : ByteArray := prog_5_method_35_code
def y_M_turn : MethodName := ⟨R_M, "turn", "(IZJ)V"⟩
abbrev w_M_turn : List Cond := .code y_M_turn b_M_turn 12 none :: wG
abbrev b_M_forget : ByteArray := prog_5_method_36_code
def y_M_forget : MethodName := ⟨R_M, "forget", "(II)I"⟩
abbrev w_M_forget : List Cond := .code y_M_forget b_M_forget 3 (some .int) :: wG
abbrev b_M_within : ByteArray := prog_5_method_37_code
def y_M_within : MethodName := ⟨R_M, "within", "(II)Z"⟩
abbrev w_M_within : List Cond := .code y_M_within b_M_within 10 (some .boolean) :: wG
abbrev b_M_put : ByteArray := prog_5_method_38_code
def y_M_put : MethodName := ⟨R_M, "put", "(IJ)J"⟩
abbrev w_M_put : List Cond := .code y_M_put b_M_put 6 (some .long) :: wG
abbrev b_M_point : ByteArray := prog_5_method_39_code
def y_M_point : MethodName := ⟨R_M, "point", "(I)J"⟩
abbrev w_M_point : List Cond := .code y_M_point b_M_point 2 (some .long) :: wG
abbrev b_M_valueAt : ByteArray := prog_5_method_40_code
def y_M_valueAt : MethodName := ⟨R_M, "valueAt", "(I)J"⟩
abbrev w_M_valueAt : List Cond := .code y_M_valueAt b_M_valueAt 2 (some .long) :: wG
abbrev b_M_has : ByteArray := prog_5_method_41_code
def y_M_has : MethodName := ⟨R_M, "has", "(I)Z"⟩
abbrev w_M_has : List Cond := .code y_M_has b_M_has 7 (some .boolean) :: wG
abbrev b_M_sample : ByteArray := prog_5_method_42_code
def y_M_sample : MethodName := ⟨R_M, "sample", "(I)Z"⟩
abbrev w_M_sample : List Cond := .code y_M_sample b_M_sample 8 (some .boolean) :: wG
abbrev b_M_termOf : ByteArray := prog_5_method_43_code
def y_M_termOf : MethodName := ⟨R_M, "termOf", "(I)I"⟩
abbrev w_M_termOf : List Cond := .code y_M_termOf b_M_termOf 1 (some .int) :: wG
abbrev b_M_listRow : ByteArray := prog_5_method_44_code
def y_M_listRow : MethodName := ⟨R_M, "listRow", "(II)V"⟩
abbrev w_M_listRow : List Cond := .code y_M_listRow b_M_listRow 5 none :: wG
abbrev b_M_needed : ByteArray := prog_5_method_45_code
def y_M_needed : MethodName := ⟨R_M, "needed", "(I)I"⟩
abbrev w_M_needed : List Cond := .code y_M_needed b_M_needed 4 (some .int) :: wG
abbrev b_M_needs : ByteArray := prog_5_method_46_code
def y_M_needs : MethodName := ⟨R_M, "needs", "(II)J"⟩
abbrev w_M_needs : List Cond := .code y_M_needs b_M_needs 3 (some .long) :: wG
abbrev b_M_fits : ByteArray := prog_5_method_47_code
def y_M_fits : MethodName := ⟨R_M, "fits", "(III)Z"⟩
abbrev w_M_fits : List Cond := .code y_M_fits b_M_fits 6 (some .boolean) :: wG
abbrev b_M_array : ByteArray := prog_5_method_48_code
def y_M_array : MethodName := ⟨R_M, "array", "(III)I"⟩
abbrev w_M_array : List Cond := .code y_M_array b_M_array 4 (some .int) :: wG
abbrev b_M_told : ByteArray := prog_5_method_49_code
def y_M_told : MethodName := ⟨R_M, "told", "(I)I"⟩
abbrev w_M_told : List Cond := .code y_M_told b_M_told 5 (some .int) :: wG
abbrev b_S_init : ByteArray := prog_2_method_1_code
def y_S_init : MethodName := ⟨R_S, "<init>", "(I)V"⟩
abbrev w_S_init : List Cond := .code y_S_init b_S_init 2 none :: wG
abbrev b_S_becomeAll : ByteArray := prog_2_method_2_code
def y_S_becomeAll : MethodName := ⟨R_S, "becomeAll", "()V"⟩
abbrev w_S_becomeAll : List Cond := .code y_S_becomeAll b_S_becomeAll 1 none :: wG
abbrev b_S_becomeEmpty : ByteArray := prog_2_method_3_code
def y_S_becomeEmpty : MethodName := ⟨R_S, "becomeEmpty", "()V"⟩
abbrev w_S_becomeEmpty : List Cond := .code y_S_becomeEmpty b_S_becomeEmpty 1 none :: wG
abbrev b_S_becomeLike : ByteArray := prog_2_method_4_code
def y_S_becomeLike : MethodName := ⟨R_S, "becomeLike", "(LLinearRows$Shape;)V"⟩
abbrev w_S_becomeLike : List Cond := .code y_S_becomeLike b_S_becomeLike 2 none :: wG
abbrev b_S_greatest : ByteArray := prog_2_method_5_code
def y_S_greatest : MethodName := ⟨R_S, "greatest", "(II)J"⟩
abbrev w_S_greatest : List Cond := .code y_S_greatest b_S_greatest 3 (some .long) :: wG
abbrev b_S_addRow : ByteArray := prog_2_method_6_code
def y_S_addRow : MethodName := ⟨R_S, "addRow", "(IIJ)V"⟩
abbrev w_S_addRow : List Cond := .code y_S_addRow b_S_addRow 6 none :: wG
abbrev b_S_becomeMeeting : ByteArray := prog_2_method_7_code
def y_S_becomeMeeting : MethodName := ⟨R_S, "becomeMeeting", "(LLinearRows$Shape;LLinearRows$Shape;)V"⟩
abbrev w_S_becomeMeeting : List Cond := .code y_S_becomeMeeting b_S_becomeMeeting 5 none :: wG
abbrev b_S_becomeJoin : ByteArray := prog_2_method_8_code
def y_S_becomeJoin : MethodName := ⟨R_S, "becomeJoin", "(LLinearRows$Shape;LLinearRows$Shape;)V"⟩
abbrev w_S_becomeJoin : List Cond := .code y_S_becomeJoin b_S_becomeJoin 5 none :: wG
abbrev b_S_becomeWidened : ByteArray := prog_2_method_9_code
def y_S_becomeWidened : MethodName := ⟨R_S, "becomeWidened", "(LLinearRows$Shape;LLinearRows$Shape;)V"⟩
abbrev w_S_becomeWidened : List Cond := .code y_S_becomeWidened b_S_becomeWidened 7 none :: wG
abbrev b_S_becomeNarrowed : ByteArray := prog_2_method_10_code
def y_S_becomeNarrowed : MethodName := ⟨R_S, "becomeNarrowed", "(LLinearRows$Shape;LLinearRows$Shape;)V"⟩
abbrev w_S_becomeNarrowed : List Cond := .code y_S_becomeNarrowed b_S_becomeNarrowed 6 none :: wG
abbrev b_S_becomeAssigned : ByteArray := prog_2_method_11_code
def y_S_becomeAssigned : MethodName := ⟨R_S, "becomeAssigned", "(LLinearRows$Shape;IIJ)V"⟩
abbrev w_S_becomeAssigned : List Cond := .code y_S_becomeAssigned b_S_becomeAssigned 10 none :: wG
abbrev b_S_becomeFree : ByteArray := prog_2_method_12_code
def y_S_becomeFree : MethodName := ⟨R_S, "becomeFree", "(LLinearRows$Shape;I)V"⟩
abbrev w_S_becomeFree : List Cond := .code y_S_becomeFree b_S_becomeFree 4 none :: wG
abbrev b_S_sourceOf : ByteArray := prog_2_method_13_code
def y_S_sourceOf : MethodName := ⟨R_S, "sourceOf", "(III)I"⟩
abbrev w_S_sourceOf : List Cond := .code y_S_sourceOf b_S_sourceOf 4 (some .int) :: wG
abbrev b_S_addedTo : ByteArray := prog_2_method_14_code
def y_S_addedTo : MethodName := ⟨R_S, "addedTo", "(IIJ)J"⟩
abbrev w_S_addedTo : List Cond := .code y_S_addedTo b_S_addedTo 5 (some .long) :: wG
abbrev b_S_closeKeptRows : ByteArray := prog_2_method_15_code
def y_S_closeKeptRows : MethodName := ⟨R_S, "closeKeptRows", "()V"⟩
abbrev w_S_closeKeptRows : List Cond := .code y_S_closeKeptRows b_S_closeKeptRows 1 none :: wG
abbrev b_S_keepBounds : ByteArray := prog_2_method_16_code
def y_S_keepBounds : MethodName := ⟨R_S, "keepBounds", "()V"⟩
abbrev w_S_keepBounds : List Cond := .code y_S_keepBounds b_S_keepBounds 1 none :: wG
abbrev b_T_init : ByteArray := prog_3_method_1_code
def y_T_init : MethodName := ⟨R_T, "<init>", "(I)V"⟩
abbrev w_T_init : List Cond := .code y_T_init b_T_init 2 none :: wG
abbrev b_T_at : ByteArray := prog_3_method_2_code
def y_T_at : MethodName := ⟨R_T, "at", "(II)J"⟩
abbrev w_T_at : List Cond := .code y_T_at b_T_at 3 (some .long) :: wG
abbrev b_T_half : ByteArray := prog_3_method_3_code
def y_T_half : MethodName := ⟨R_T, "half", "(I)J"⟩
abbrev w_T_half : List Cond := .code y_T_half b_T_half 2 (some .long) :: wG
abbrev b_T_ofTerms : ByteArray := prog_3_method_4_code
def y_T_ofTerms : MethodName := ⟨R_T, "ofTerms", "(II)J"⟩
abbrev w_T_ofTerms : List Cond := .code y_T_ofTerms b_T_ofTerms 3 (some .long) :: wG
abbrev b_T_store : ByteArray := prog_3_method_5_code
def y_T_store : MethodName := ⟨R_T, "store", "(IIJ)V"⟩
abbrev w_T_store : List Cond := .code y_T_store b_T_store 5 none :: wG
abbrev b_T_lowerTo : ByteArray := prog_3_method_6_code
def y_T_lowerTo : MethodName := ⟨R_T, "lowerTo", "(IIJ)V"⟩
abbrev w_T_lowerTo : List Cond := .code y_T_lowerTo b_T_lowerTo 5 none :: wG
abbrev b_T_takeFrom : ByteArray := prog_3_method_7_code
def y_T_takeFrom : MethodName := ⟨R_T, "takeFrom", "(LLinearRows$Table;)V"⟩
abbrev w_T_takeFrom : List Cond := .code y_T_takeFrom b_T_takeFrom 2 none :: wG
abbrev b_T_dropRows : ByteArray := prog_3_method_8_code
def y_T_dropRows : MethodName := ⟨R_T, "dropRows", "()V"⟩
abbrev w_T_dropRows : List Cond := .code y_T_dropRows b_T_dropRows 1 none :: wG
abbrev b_T_storeOpposites : ByteArray := prog_3_method_9_code
def y_T_storeOpposites : MethodName := ⟨R_T, "storeOpposites", "(J)V"⟩
abbrev w_T_storeOpposites : List Cond := .code y_T_storeOpposites b_T_storeOpposites 4 none :: wG
abbrev b_T_countRows : ByteArray := prog_3_method_10_code
def y_T_countRows : MethodName := ⟨R_T, "countRows", "()I"⟩
abbrev w_T_countRows : List Cond := .code y_T_countRows b_T_countRows 4 (some .int) :: wG
abbrev b_T_isNowhereAbove : ByteArray := prog_3_method_11_code
def y_T_isNowhereAbove : MethodName := ⟨R_T, "isNowhereAbove", "(LLinearRows$Table;)Z"⟩
abbrev w_T_isNowhereAbove : List Cond := .code y_T_isNowhereAbove b_T_isNowhereAbove 4 (some .boolean) :: wG
abbrev b_T_isTooFar : ByteArray := prog_3_method_12_code
def y_T_isTooFar : MethodName := ⟨R_T, "isTooFar", "()Z"⟩
abbrev w_T_isTooFar : List Cond := .code y_T_isTooFar b_T_isTooFar 5 (some .boolean) :: wG
abbrev b_T_close : ByteArray := prog_3_method_13_code
def y_T_close : MethodName := ⟨R_T, "close", "()Z"⟩
abbrev w_T_close : List Cond := .code y_T_close b_T_close 2 (some .boolean) :: wG
abbrev b_T_chainThrough : ByteArray := prog_3_method_14_code
def y_T_chainThrough : MethodName := ⟨R_T, "chainThrough", "(I)V"⟩
abbrev w_T_chainThrough : List Cond := .code y_T_chainThrough b_T_chainThrough 10 none :: wG
abbrev b_T_hasOppositesBelowZero : ByteArray := prog_3_method_15_code
def y_T_hasOppositesBelowZero : MethodName := ⟨R_T, "hasOppositesBelowZero", "()Z"⟩
abbrev w_T_hasOppositesBelowZero : List Cond := .code y_T_hasOppositesBelowZero b_T_hasOppositesBelowZero 2 (some .boolean) :: wG
abbrev b_T_cutToEven : ByteArray := prog_3_method_16_code
def y_T_cutToEven : MethodName := ⟨R_T, "cutToEven", "()V"⟩
abbrev w_T_cutToEven : List Cond := .code y_T_cutToEven b_T_cutToEven 2 none :: wG
abbrev b_T_hasTwicesThatContradict : ByteArray := prog_3_method_17_code
def y_T_hasTwicesThatContradict : MethodName := ⟨R_T, "hasTwicesThatContradict", "()Z"⟩
abbrev w_T_hasTwicesThatContradict : List Cond := .code y_T_hasTwicesThatContradict b_T_hasTwicesThatContradict 2 (some .boolean) :: wG
abbrev b_T_addHalves : ByteArray := prog_3_method_18_code
def y_T_addHalves : MethodName := ⟨R_T, "addHalves", "()V"⟩
abbrev w_T_addHalves : List Cond := .code y_T_addHalves b_T_addHalves 3 none :: wG
abbrev b_L_cell : ByteArray := method_2_code
def y_L_cell : MethodName := ⟨R_L, "cell", "([II)I"⟩
abbrev w_L_cell : List Cond := .code y_L_cell b_L_cell 2 (some .int) :: wG
abbrev b_L_all : ByteArray := method_3_code
def y_L_all : MethodName := ⟨R_L, "all", "(LLinearRows;I)I"⟩
abbrev h_L_all : List (Nat × Nat × Nat × Nat) := [(0, 5, 8, 13)]
abbrev w_L_all : List Cond := .codeWith y_L_all b_L_all 3 (some .int) h_L_all :: wG
abbrev b_L_row : ByteArray := method_4_code
def y_L_row : MethodName := ⟨R_L, "row", "(LLinearRows;IIIJ[J)I"⟩
abbrev h_L_row : List (Nat × Nat × Nat × Nat) := [(0, 14, 17, 13), (0, 14, 21, 19), (0, 14, 25, 21)]
abbrev w_L_row : List Cond := .codeWith y_L_row b_L_row 8 (some .int) h_L_row :: wG
abbrev b_L_bound : ByteArray := method_5_code
def y_L_bound : MethodName := ⟨R_L, "bound", "(LLinearRows;III[J)I"⟩
abbrev h_L_bound : List (Nat × Nat × Nat × Nat) := [(0, 11, 14, 13)]
abbrev w_L_bound : List Cond := .codeWith y_L_bound b_L_bound 6 (some .int) h_L_bound :: wG
abbrev b_L_kept : ByteArray := method_6_code
def y_L_kept : MethodName := ⟨R_L, "kept", "(LLinearRows;III[J)I"⟩
abbrev h_L_kept : List (Nat × Nat × Nat × Nat) := [(0, 11, 14, 13)]
abbrev w_L_kept : List Cond := .codeWith y_L_kept b_L_kept 6 (some .int) h_L_kept :: wG
abbrev b_L_meet : ByteArray := method_7_code
def y_L_meet : MethodName := ⟨R_L, "meet", "(LLinearRows;III[J)I"⟩
abbrev h_L_meet : List (Nat × Nat × Nat × Nat) := [(0, 12, 15, 13), (0, 12, 19, 21)]
abbrev w_L_meet : List Cond := .codeWith y_L_meet b_L_meet 6 (some .int) h_L_meet :: wG
abbrev b_L_join : ByteArray := method_8_code
def y_L_join : MethodName := ⟨R_L, "join", "(LLinearRows;III[J)I"⟩
abbrev h_L_join : List (Nat × Nat × Nat × Nat) := [(0, 12, 15, 13)]
abbrev w_L_join : List Cond := .codeWith y_L_join b_L_join 6 (some .int) h_L_join :: wG
abbrev b_L_widen : ByteArray := method_9_code
def y_L_widen : MethodName := ⟨R_L, "widen", "(LLinearRows;III[J)I"⟩
abbrev h_L_widen : List (Nat × Nat × Nat × Nat) := [(0, 12, 15, 13), (0, 12, 19, 21)]
abbrev w_L_widen : List Cond := .codeWith y_L_widen b_L_widen 6 (some .int) h_L_widen :: wG
abbrev b_L_narrow : ByteArray := method_10_code
def y_L_narrow : MethodName := ⟨R_L, "narrow", "(LLinearRows;III[J)I"⟩
abbrev h_L_narrow : List (Nat × Nat × Nat × Nat) := [(0, 12, 15, 13), (0, 12, 19, 21)]
abbrev w_L_narrow : List Cond := .codeWith y_L_narrow b_L_narrow 6 (some .int) h_L_narrow :: wG
abbrev b_L_copy : ByteArray := method_11_code
def y_L_copy : MethodName := ⟨R_L, "copy", "(LLinearRows;II)I"⟩
abbrev h_L_copy : List (Nat × Nat × Nat × Nat) := [(0, 6, 9, 13)]
abbrev w_L_copy : List Cond := .codeWith y_L_copy b_L_copy 4 (some .int) h_L_copy :: wG
abbrev b_L_set : ByteArray := method_12_code
def y_L_set : MethodName := ⟨R_L, "set", "(LLinearRows;IIIJ[J)I"⟩
abbrev h_L_set : List (Nat × Nat × Nat × Nat) := [(0, 14, 17, 13), (0, 14, 21, 19), (0, 14, 25, 21)]
abbrev w_L_set : List Cond := .codeWith y_L_set b_L_set 8 (some .int) h_L_set :: wG
abbrev b_L_forget : ByteArray := method_13_code
def y_L_forget : MethodName := ⟨R_L, "forget", "(LLinearRows;II[J)I"⟩
abbrev h_L_forget : List (Nat × Nat × Nat × Nat) := [(0, 10, 13, 13)]
abbrev w_L_forget : List Cond := .codeWith y_L_forget b_L_forget 5 (some .int) h_L_forget :: wG
abbrev b_L_within : ByteArray := method_14_code
def y_L_within : MethodName := ⟨R_L, "within", "(LLinearRows;II[J)I"⟩
abbrev h_L_within : List (Nat × Nat × Nat × Nat) := [(0, 17, 20, 13)]
abbrev w_L_within : List Cond := .codeWith y_L_within b_L_within 5 (some .int) h_L_within :: wG
abbrev b_L_put : ByteArray := method_15_code
def y_L_put : MethodName := ⟨R_L, "put", "(LLinearRows;IJ[J)I"⟩
abbrev h_L_put : List (Nat × Nat × Nat × Nat) := [(0, 10, 13, 13), (0, 10, 17, 19)]
abbrev w_L_put : List Cond := .codeWith y_L_put b_L_put 6 (some .int) h_L_put :: wG
abbrev b_L_point : ByteArray := method_16_code
def y_L_point : MethodName := ⟨R_L, "point", "(LLinearRows;I[J)I"⟩
abbrev h_L_point : List (Nat × Nat × Nat × Nat) := [(0, 8, 11, 13)]
abbrev w_L_point : List Cond := .codeWith y_L_point b_L_point 4 (some .int) h_L_point :: wG
abbrev b_L_has : ByteArray := method_17_code
def y_L_has : MethodName := ⟨R_L, "has", "(LLinearRows;I[J)I"⟩
abbrev h_L_has : List (Nat × Nat × Nat × Nat) := [(0, 16, 19, 13)]
abbrev w_L_has : List Cond := .codeWith y_L_has b_L_has 4 (some .int) h_L_has :: wG
abbrev b_L_sample : ByteArray := method_18_code
def y_L_sample : MethodName := ⟨R_L, "sample", "(LLinearRows;I[J)I"⟩
abbrev h_L_sample : List (Nat × Nat × Nat × Nat) := [(0, 16, 19, 13)]
abbrev w_L_sample : List Cond := .codeWith y_L_sample b_L_sample 4 (some .int) h_L_sample :: wG
abbrev b_L_needed : ByteArray := method_19_code
def y_L_needed : MethodName := ⟨R_L, "needed", "(LLinearRows;I[J)I"⟩
abbrev h_L_needed : List (Nat × Nat × Nat × Nat) := [(0, 9, 12, 13)]
abbrev w_L_needed : List Cond := .codeWith y_L_needed b_L_needed 4 (some .int) h_L_needed :: wG
abbrev b_L_needs : ByteArray := method_20_code
def y_L_needs : MethodName := ⟨R_L, "needs", "(LLinearRows;II[J)I"⟩
abbrev h_L_needs : List (Nat × Nat × Nat × Nat) := [(0, 9, 12, 13)]
abbrev w_L_needs : List Cond := .codeWith y_L_needs b_L_needs 5 (some .int) h_L_needs :: wG
abbrev b_L_fits : ByteArray := method_21_code
def y_L_fits : MethodName := ⟨R_L, "fits", "(LLinearRows;III[J)I"⟩
abbrev h_L_fits : List (Nat × Nat × Nat × Nat) := [(0, 19, 22, 13), (0, 19, 26, 19)]
abbrev w_L_fits : List Cond := .codeWith y_L_fits b_L_fits 6 (some .int) h_L_fits :: wG
abbrev b_L_array : ByteArray := method_22_code
def y_L_array : MethodName := ⟨R_L, "array", "(LLinearRows;III[J)I"⟩
abbrev h_L_array : List (Nat × Nat × Nat × Nat) := [(0, 12, 15, 13)]
abbrev w_L_array : List Cond := .codeWith y_L_array b_L_array 6 (some .int) h_L_array :: wG
abbrev b_L_told : ByteArray := method_23_code
def y_L_told : MethodName := ⟨R_L, "told", "(LLinearRows;I[J)I"⟩
abbrev h_L_told : List (Nat × Nat × Nat × Nat) := [(0, 9, 12, 13)]
abbrev w_L_told : List Cond := .codeWith y_L_told b_L_told 4 (some .int) h_L_told :: wG
abbrev b_L_law : ByteArray := code
def y_L_law : MethodName := ⟨R_L, "law", "([I)Z"⟩
abbrev b_JM_floorDiv : ByteArray := prog_10_method_49_code
def y_JM_floorDiv : MethodName := ⟨R_JM, "floorDiv", "(JJ)J"⟩
abbrev w_JM_floorDiv : List Cond := .code y_JM_floorDiv b_JM_floorDiv 6 (some .long) :: wG
abbrev b_JM_max : ByteArray := prog_10_method_65_code
def y_JM_max : MethodName := ⟨R_JM, "max", "(II)I"⟩
abbrev w_JM_max : List Cond := .code y_JM_max b_JM_max 2 (some .int) :: wG
abbrev b_JM_max_JJJ : ByteArray := prog_10_method_66_code
def y_JM_max_JJJ : MethodName := ⟨R_JM, "max", "(JJ)J"⟩
abbrev w_JM_max_JJJ : List Cond := .code y_JM_max_JJJ b_JM_max_JJJ 4 (some .long) :: wG
abbrev b_JM_min : ByteArray := prog_10_method_69_code
def y_JM_min : MethodName := ⟨R_JM, "min", "(II)I"⟩
abbrev w_JM_min : List Cond := .code y_JM_min b_JM_min 2 (some .int) :: wG
abbrev b_JM_min_JJJ : ByteArray := prog_10_method_70_code
def y_JM_min_JJJ : MethodName := ⟨R_JM, "min", "(JJ)J"⟩
abbrev w_JM_min_JJJ : List Cond := .code y_JM_min_JJJ b_JM_min_JJJ 4 (some .long) :: wG
abbrev b_JA_fill : ByteArray := prog_15_method_101_code
def y_JA_fill : MethodName := ⟨R_JA, "fill", "([JJ)V"⟩
abbrev w_JA_fill : List Cond := .code y_JA_fill b_JA_fill 5 none :: wG
theorem wm_1_0 : Cond.initialized "LinearRowsLaw" ∈ wG := List.mem_filter.mpr ⟨List.mem_append_right _ (List.mem_append_left _ (List.mem_of_getElem? (i := 0) rfl)), rfl⟩
theorem wm_1_1 : Cond.initialized "LinearRows" ∈ wG := List.mem_filter.mpr ⟨List.mem_append_right _ (List.mem_append_left _ (List.mem_of_getElem? (i := 1) rfl)), rfl⟩
theorem wm_1_2 : Cond.initialized "java/lang/Math" ∈ wG := List.mem_filter.mpr ⟨List.mem_append_right _ (List.mem_append_left _ (List.mem_of_getElem? (i := 2) rfl)), rfl⟩
theorem wm_1_3 : Cond.initialized "LinearRows$Shape" ∈ wG := List.mem_filter.mpr ⟨List.mem_append_right _ (List.mem_append_left _ (List.mem_of_getElem? (i := 3) rfl)), rfl⟩
theorem wm_1_4 : Cond.initialized "LinearRows$Table" ∈ wG := List.mem_filter.mpr ⟨List.mem_append_right _ (List.mem_append_left _ (List.mem_of_getElem? (i := 4) rfl)), rfl⟩
theorem wm_1_5 : Cond.initialized "java/util/Arrays" ∈ wG := List.mem_filter.mpr ⟨List.mem_append_right _ (List.mem_append_left _ (List.mem_of_getElem? (i := 5) rfl)), rfl⟩
theorem wm_1_6 : Cond.initialized "LinearRowsModel" ∈ wG := List.mem_filter.mpr ⟨List.mem_append_right _ (List.mem_append_left _ (List.mem_of_getElem? (i := 6) rfl)), rfl⟩
theorem wm_1_7 : Cond.initialized "java/lang/Throwable" ∈ wG := List.mem_filter.mpr ⟨List.mem_append_right _ (List.mem_append_left _ (List.mem_of_getElem? (i := 7) rfl)), rfl⟩
theorem wm_1_8 : Cond.initialized "java/lang/Exception" ∈ wG := List.mem_filter.mpr ⟨List.mem_append_right _ (List.mem_append_left _ (List.mem_of_getElem? (i := 8) rfl)), rfl⟩
theorem wm_1_9 : Cond.initialized "java/lang/RuntimeException" ∈ wG := List.mem_filter.mpr ⟨List.mem_append_right _ (List.mem_append_left _ (List.mem_of_getElem? (i := 9) rfl)), rfl⟩
theorem wm_1_10 : Cond.initialized "java/lang/IndexOutOfBoundsException" ∈ wG := List.mem_filter.mpr ⟨List.mem_append_right _ (List.mem_append_left _ (List.mem_of_getElem? (i := 10) rfl)), rfl⟩
theorem wm_1_11 : Cond.initialized "java/lang/IllegalArgumentException" ∈ wG := List.mem_filter.mpr ⟨List.mem_append_right _ (List.mem_append_left _ (List.mem_of_getElem? (i := 11) rfl)), rfl⟩
theorem wm_1_12 : Cond.initialized "java/lang/System" ∈ wG := List.mem_filter.mpr ⟨List.mem_append_right _ (List.mem_append_left _ (List.mem_of_getElem? (i := 12) rfl)), rfl⟩
theorem wm_1_13 : Cond.initialized "java/lang/ArithmeticException" ∈ wG := List.mem_filter.mpr ⟨List.mem_append_right _ (List.mem_append_left _ (List.mem_of_getElem? (i := 13) rfl)), rfl⟩
theorem wm_1_14 : Cond.classLink "LinearRowsLaw" 8 "LinearRows" ∈ wG := List.mem_filter.mpr ⟨List.mem_append_right _ (List.mem_append_left _ (List.mem_of_getElem? (i := 14) rfl)), rfl⟩
theorem wm_1_15 : Cond.instantiable "LinearRows" 9 ∈ wG := List.mem_filter.mpr ⟨List.mem_append_right _ (List.mem_append_left _ (List.mem_of_getElem? (i := 15) rfl)), rfl⟩
theorem wm_1_16 : Cond.methodLink "LinearRowsLaw" 97 y_X_init ∈ wG := List.mem_filter.mpr ⟨List.mem_append_right _ (List.mem_append_left _ (List.mem_of_getElem? (i := 16) rfl)), rfl⟩
theorem wm_1_17 : Cond.instanceMethod y_X_init ∈ wG := List.mem_filter.mpr ⟨List.mem_append_right _ (List.mem_append_left _ (List.mem_of_getElem? (i := 17) rfl)), rfl⟩
theorem wm_1_18 : Cond.code y_X_init b_X_init 3 none ∈ wG := List.mem_filter.mpr ⟨List.mem_append_right _ (List.mem_append_left _ (List.mem_of_getElem? (i := 18) rfl)), rfl⟩
theorem wm_1_19 : Cond.methodLink "LinearRows" 1 ⟨"java/lang/Object", "<init>", "()V"⟩ ∈ wG := List.mem_filter.mpr ⟨List.mem_append_right _ (List.mem_append_left _ (List.mem_of_getElem? (i := 19) rfl)), rfl⟩
theorem wm_1_20 : Cond.instanceMethod ⟨"java/lang/Object", "<init>", "()V"⟩ ∈ wG := List.mem_filter.mpr ⟨List.mem_append_right _ (List.mem_append_left _ (List.mem_of_getElem? (i := 20) rfl)), rfl⟩
theorem wm_1_22 : Cond.methodLink "LinearRows" 9 y_JM_min ∈ wG := List.mem_filter.mpr ⟨List.mem_append_right _ (List.mem_append_left _ (List.mem_of_getElem? (i := 22) rfl)), rfl⟩
theorem wm_1_23 : Cond.static y_JM_min ∈ wG := List.mem_filter.mpr ⟨List.mem_append_right _ (List.mem_append_left _ (List.mem_of_getElem? (i := 23) rfl)), rfl⟩
theorem wm_1_24 : Cond.code y_JM_min b_JM_min 2 (some .int) ∈ wG := List.mem_filter.mpr ⟨List.mem_append_right _ (List.mem_append_left _ (List.mem_of_getElem? (i := 24) rfl)), rfl⟩
theorem wm_1_25 : Cond.methodLink "LinearRows" 15 y_JM_max ∈ wG := List.mem_filter.mpr ⟨List.mem_append_right _ (List.mem_append_left _ (List.mem_of_getElem? (i := 25) rfl)), rfl⟩
theorem wm_1_26 : Cond.static y_JM_max ∈ wG := List.mem_filter.mpr ⟨List.mem_append_right _ (List.mem_append_left _ (List.mem_of_getElem? (i := 26) rfl)), rfl⟩
theorem wm_1_27 : Cond.code y_JM_max b_JM_max 2 (some .int) ∈ wG := List.mem_filter.mpr ⟨List.mem_append_right _ (List.mem_append_left _ (List.mem_of_getElem? (i := 27) rfl)), rfl⟩
theorem wm_1_28 : Cond.classLink "LinearRows" 25 "LinearRows$Shape" ∈ wG := List.mem_filter.mpr ⟨List.mem_append_right _ (List.mem_append_left _ (List.mem_of_getElem? (i := 28) rfl)), rfl⟩
theorem wm_1_30 : Cond.instantiable "LinearRows$Shape" 4 ∈ wG := List.mem_filter.mpr ⟨List.mem_append_right _ (List.mem_append_left _ (List.mem_of_getElem? (i := 30) rfl)), rfl⟩
theorem wm_1_31 : Cond.methodLink "LinearRows" 31 y_S_init ∈ wG := List.mem_filter.mpr ⟨List.mem_append_right _ (List.mem_append_left _ (List.mem_of_getElem? (i := 31) rfl)), rfl⟩
theorem wm_1_32 : Cond.instanceMethod y_S_init ∈ wG := List.mem_filter.mpr ⟨List.mem_append_right _ (List.mem_append_left _ (List.mem_of_getElem? (i := 32) rfl)), rfl⟩
theorem wm_1_33 : Cond.code y_S_init b_S_init 2 none ∈ wG := List.mem_filter.mpr ⟨List.mem_append_right _ (List.mem_append_left _ (List.mem_of_getElem? (i := 33) rfl)), rfl⟩
theorem wm_1_34 : Cond.methodLink "LinearRows$Shape" 3 ⟨"java/lang/Object", "<init>", "()V"⟩ ∈ wG := List.mem_filter.mpr ⟨List.mem_append_right _ (List.mem_append_left _ (List.mem_of_getElem? (i := 34) rfl)), rfl⟩
theorem wm_1_35 : Cond.classLink "LinearRows$Shape" 15 "LinearRows$Table" ∈ wG := List.mem_filter.mpr ⟨List.mem_append_right _ (List.mem_append_left _ (List.mem_of_getElem? (i := 35) rfl)), rfl⟩
theorem wm_1_36 : Cond.instantiable "LinearRows$Table" 2 ∈ wG := List.mem_filter.mpr ⟨List.mem_append_right _ (List.mem_append_left _ (List.mem_of_getElem? (i := 36) rfl)), rfl⟩
theorem wm_1_37 : Cond.methodLink "LinearRows$Shape" 17 y_T_init ∈ wG := List.mem_filter.mpr ⟨List.mem_append_right _ (List.mem_append_left _ (List.mem_of_getElem? (i := 37) rfl)), rfl⟩
theorem wm_1_38 : Cond.instanceMethod y_T_init ∈ wG := List.mem_filter.mpr ⟨List.mem_append_right _ (List.mem_append_left _ (List.mem_of_getElem? (i := 38) rfl)), rfl⟩
theorem wm_1_39 : Cond.code y_T_init b_T_init 2 none ∈ wG := List.mem_filter.mpr ⟨List.mem_append_right _ (List.mem_append_left _ (List.mem_of_getElem? (i := 39) rfl)), rfl⟩
theorem wm_1_40 : Cond.methodLink "LinearRows$Table" 3 ⟨"java/lang/Object", "<init>", "()V"⟩ ∈ wG := List.mem_filter.mpr ⟨List.mem_append_right _ (List.mem_append_left _ (List.mem_of_getElem? (i := 40) rfl)), rfl⟩
theorem wm_1_41 : Cond.constantLong "LinearRows$Table" 19 4611686018427387904 ∈ wG := List.mem_filter.mpr ⟨List.mem_append_right _ (List.mem_append_left _ (List.mem_of_getElem? (i := 41) rfl)), rfl⟩
theorem wm_1_42 : Cond.methodLink "LinearRows$Table" 21 y_JA_fill ∈ wG := List.mem_filter.mpr ⟨List.mem_append_right _ (List.mem_append_left _ (List.mem_of_getElem? (i := 42) rfl)), rfl⟩
theorem wm_1_43 : Cond.static y_JA_fill ∈ wG := List.mem_filter.mpr ⟨List.mem_append_right _ (List.mem_append_left _ (List.mem_of_getElem? (i := 43) rfl)), rfl⟩
theorem wm_1_44 : Cond.code y_JA_fill b_JA_fill 5 none ∈ wG := List.mem_filter.mpr ⟨List.mem_append_right _ (List.mem_append_left _ (List.mem_of_getElem? (i := 44) rfl)), rfl⟩
theorem wm_1_45 : Cond.fieldLink "LinearRows$Table" 9 "LinearRows$Table" "size" "I" ∈ wG := List.mem_filter.mpr ⟨List.mem_append_right _ (List.mem_append_left _ (List.mem_of_getElem? (i := 45) rfl)), rfl⟩
theorem wm_1_46 : Cond.fieldLink "LinearRows$Table" 15 "LinearRows$Table" "cells" "[J" ∈ wG := List.mem_filter.mpr ⟨List.mem_append_right _ (List.mem_append_left _ (List.mem_of_getElem? (i := 46) rfl)), rfl⟩
theorem wm_1_47 : Cond.laysFinal "LinearRows$Table" "LinearRows$Table" "size" "I" ∈ wG := List.mem_filter.mpr ⟨List.mem_append_right _ (List.mem_append_left _ (List.mem_of_getElem? (i := 47) rfl)), rfl⟩
theorem wm_1_48 : Cond.soleField "LinearRows$Table" "size" ∈ wG := List.mem_filter.mpr ⟨List.mem_append_right _ (List.mem_append_left _ (List.mem_of_getElem? (i := 48) rfl)), rfl⟩
theorem wm_1_49 : Cond.laysFinal "LinearRows$Table" "LinearRows$Table" "cells" "[J" ∈ wG := List.mem_filter.mpr ⟨List.mem_append_right _ (List.mem_append_left _ (List.mem_of_getElem? (i := 49) rfl)), rfl⟩
theorem wm_1_50 : Cond.soleField "LinearRows$Table" "cells" ∈ wG := List.mem_filter.mpr ⟨List.mem_append_right _ (List.mem_append_left _ (List.mem_of_getElem? (i := 50) rfl)), rfl⟩
theorem wm_1_51 : Cond.superclass "LinearRows$Table" "java/lang/Object" ∈ wG := List.mem_filter.mpr ⟨List.mem_append_right _ (List.mem_append_left _ (List.mem_of_getElem? (i := 51) rfl)), rfl⟩
theorem wm_1_52 : Cond.arrayClass FieldType.long ∈ wG := List.mem_filter.mpr ⟨List.mem_append_right _ (List.mem_append_left _ (List.mem_of_getElem? (i := 52) rfl)), rfl⟩
theorem wm_1_53 : Cond.methodLink "LinearRows$Shape" 27 y_T_storeOpposites ∈ wG := List.mem_filter.mpr ⟨List.mem_append_right _ (List.mem_append_left _ (List.mem_of_getElem? (i := 53) rfl)), rfl⟩
theorem wm_1_54 : Cond.instanceMethod y_T_storeOpposites ∈ wG := List.mem_filter.mpr ⟨List.mem_append_right _ (List.mem_append_left _ (List.mem_of_getElem? (i := 54) rfl)), rfl⟩
theorem wm_1_55 : Cond.selects "LinearRows$Table" y_T_storeOpposites y_T_storeOpposites ∈ wG := List.mem_filter.mpr ⟨List.mem_append_right _ (List.mem_append_left _ (List.mem_of_getElem? (i := 55) rfl)), rfl⟩
theorem wm_1_56 : Cond.code y_T_storeOpposites b_T_storeOpposites 4 none ∈ wG := List.mem_filter.mpr ⟨List.mem_append_right _ (List.mem_append_left _ (List.mem_of_getElem? (i := 56) rfl)), rfl⟩
theorem wm_1_57 : Cond.fieldLink "LinearRows$Shape" 9 "LinearRows$Shape" "size" "I" ∈ wG := List.mem_filter.mpr ⟨List.mem_append_right _ (List.mem_append_left _ (List.mem_of_getElem? (i := 57) rfl)), rfl⟩
theorem wm_1_58 : Cond.fieldLink "LinearRows$Shape" 20 "LinearRows$Shape" "keptRows" "LLinearRows$Table;" ∈ wG := List.mem_filter.mpr ⟨List.mem_append_right _ (List.mem_append_left _ (List.mem_of_getElem? (i := 58) rfl)), rfl⟩
theorem wm_1_60 : Cond.fieldLink "LinearRows$Shape" 24 "LinearRows$Shape" "bounds" "LLinearRows$Table;" ∈ wG := List.mem_filter.mpr ⟨List.mem_append_right _ (List.mem_append_left _ (List.mem_of_getElem? (i := 60) rfl)), rfl⟩
theorem wm_1_62 : Cond.fieldLink "LinearRows$Shape" 31 "LinearRows$Shape" "empty" "Z" ∈ wG := List.mem_filter.mpr ⟨List.mem_append_right _ (List.mem_append_left _ (List.mem_of_getElem? (i := 62) rfl)), rfl⟩
theorem wm_1_64 : Cond.laysFinal "LinearRows$Shape" "LinearRows$Shape" "size" "I" ∈ wG := List.mem_filter.mpr ⟨List.mem_append_right _ (List.mem_append_left _ (List.mem_of_getElem? (i := 64) rfl)), rfl⟩
theorem wm_1_65 : Cond.soleField "LinearRows$Shape" "size" ∈ wG := List.mem_filter.mpr ⟨List.mem_append_right _ (List.mem_append_left _ (List.mem_of_getElem? (i := 65) rfl)), rfl⟩
theorem wm_1_66 : Cond.laysFinal "LinearRows$Shape" "LinearRows$Shape" "keptRows" "LLinearRows$Table;" ∈ wG := List.mem_filter.mpr ⟨List.mem_append_right _ (List.mem_append_left _ (List.mem_of_getElem? (i := 66) rfl)), rfl⟩
theorem wm_1_67 : Cond.soleField "LinearRows$Shape" "keptRows" ∈ wG := List.mem_filter.mpr ⟨List.mem_append_right _ (List.mem_append_left _ (List.mem_of_getElem? (i := 67) rfl)), rfl⟩
theorem wm_1_68 : Cond.laysFinal "LinearRows$Shape" "LinearRows$Shape" "bounds" "LLinearRows$Table;" ∈ wG := List.mem_filter.mpr ⟨List.mem_append_right _ (List.mem_append_left _ (List.mem_of_getElem? (i := 68) rfl)), rfl⟩
theorem wm_1_69 : Cond.soleField "LinearRows$Shape" "bounds" ∈ wG := List.mem_filter.mpr ⟨List.mem_append_right _ (List.mem_append_left _ (List.mem_of_getElem? (i := 69) rfl)), rfl⟩
theorem wm_1_70 : Cond.lays "LinearRows$Shape" "LinearRows$Shape" "empty" "Z" ∈ wG := List.mem_filter.mpr ⟨List.mem_append_right _ (List.mem_append_left _ (List.mem_of_getElem? (i := 70) rfl)), rfl⟩
theorem wm_1_71 : Cond.soleField "LinearRows$Shape" "empty" ∈ wG := List.mem_filter.mpr ⟨List.mem_append_right _ (List.mem_append_left _ (List.mem_of_getElem? (i := 71) rfl)), rfl⟩
theorem wm_1_72 : Cond.superclass "LinearRows$Shape" "java/lang/Object" ∈ wG := List.mem_filter.mpr ⟨List.mem_append_right _ (List.mem_append_left _ (List.mem_of_getElem? (i := 72) rfl)), rfl⟩
theorem wm_1_73 : Cond.classLink "LinearRows" 38 "LinearRows$Table" ∈ wG := List.mem_filter.mpr ⟨List.mem_append_right _ (List.mem_append_left _ (List.mem_of_getElem? (i := 73) rfl)), rfl⟩
theorem wm_1_74 : Cond.methodLink "LinearRows" 40 y_T_init ∈ wG := List.mem_filter.mpr ⟨List.mem_append_right _ (List.mem_append_left _ (List.mem_of_getElem? (i := 74) rfl)), rfl⟩
theorem wm_1_75 : Cond.fieldLink "LinearRows" 18 "LinearRows" "names" "I" ∈ wG := List.mem_filter.mpr ⟨List.mem_append_right _ (List.mem_append_left _ (List.mem_of_getElem? (i := 75) rfl)), rfl⟩
theorem wm_1_76 : Cond.fieldLink "LinearRows" 22 "LinearRows" "places" "I" ∈ wG := List.mem_filter.mpr ⟨List.mem_append_right _ (List.mem_append_left _ (List.mem_of_getElem? (i := 76) rfl)), rfl⟩
theorem wm_1_77 : Cond.fieldLink "LinearRows" 27 "LinearRows" "shapes" "[LLinearRows$Shape;" ∈ wG := List.mem_filter.mpr ⟨List.mem_append_right _ (List.mem_append_left _ (List.mem_of_getElem? (i := 77) rfl)), rfl⟩
theorem wm_1_78 : Cond.fieldLink "LinearRows" 34 "LinearRows" "made" "LLinearRows$Shape;" ∈ wG := List.mem_filter.mpr ⟨List.mem_append_right _ (List.mem_append_left _ (List.mem_of_getElem? (i := 78) rfl)), rfl⟩
theorem wm_1_79 : Cond.fieldLink "LinearRows" 41 "LinearRows" "left" "LLinearRows$Table;" ∈ wG := List.mem_filter.mpr ⟨List.mem_append_right _ (List.mem_append_left _ (List.mem_of_getElem? (i := 79) rfl)), rfl⟩
theorem wm_1_80 : Cond.fieldLink "LinearRows" 45 "LinearRows" "trial" "LLinearRows$Table;" ∈ wG := List.mem_filter.mpr ⟨List.mem_append_right _ (List.mem_append_left _ (List.mem_of_getElem? (i := 80) rfl)), rfl⟩
theorem wm_1_81 : Cond.fieldLink "LinearRows" 48 "LinearRows" "numbers" "[J" ∈ wG := List.mem_filter.mpr ⟨List.mem_append_right _ (List.mem_append_left _ (List.mem_of_getElem? (i := 81) rfl)), rfl⟩
theorem wm_1_82 : Cond.fieldLink "LinearRows" 52 "LinearRows" "neededRows" "[J" ∈ wG := List.mem_filter.mpr ⟨List.mem_append_right _ (List.mem_append_left _ (List.mem_of_getElem? (i := 82) rfl)), rfl⟩
theorem wm_1_83 : Cond.fieldLink "LinearRows" 55 "LinearRows" "neededCount" "I" ∈ wG := List.mem_filter.mpr ⟨List.mem_append_right _ (List.mem_append_left _ (List.mem_of_getElem? (i := 83) rfl)), rfl⟩
theorem wm_1_84 : Cond.laysFinal "LinearRows" "LinearRows" "names" "I" ∈ wG := List.mem_filter.mpr ⟨List.mem_append_right _ (List.mem_append_left _ (List.mem_of_getElem? (i := 84) rfl)), rfl⟩
theorem wm_1_85 : Cond.soleField "LinearRows" "names" ∈ wG := List.mem_filter.mpr ⟨List.mem_append_right _ (List.mem_append_left _ (List.mem_of_getElem? (i := 85) rfl)), rfl⟩
theorem wm_1_86 : Cond.laysFinal "LinearRows" "LinearRows" "places" "I" ∈ wG := List.mem_filter.mpr ⟨List.mem_append_right _ (List.mem_append_left _ (List.mem_of_getElem? (i := 86) rfl)), rfl⟩
theorem wm_1_87 : Cond.soleField "LinearRows" "places" ∈ wG := List.mem_filter.mpr ⟨List.mem_append_right _ (List.mem_append_left _ (List.mem_of_getElem? (i := 87) rfl)), rfl⟩
theorem wm_1_88 : Cond.laysFinal "LinearRows" "LinearRows" "shapes" "[LLinearRows$Shape;" ∈ wG := List.mem_filter.mpr ⟨List.mem_append_right _ (List.mem_append_left _ (List.mem_of_getElem? (i := 88) rfl)), rfl⟩
theorem wm_1_89 : Cond.soleField "LinearRows" "shapes" ∈ wG := List.mem_filter.mpr ⟨List.mem_append_right _ (List.mem_append_left _ (List.mem_of_getElem? (i := 89) rfl)), rfl⟩
theorem wm_1_90 : Cond.laysFinal "LinearRows" "LinearRows" "made" "LLinearRows$Shape;" ∈ wG := List.mem_filter.mpr ⟨List.mem_append_right _ (List.mem_append_left _ (List.mem_of_getElem? (i := 90) rfl)), rfl⟩
theorem wm_1_91 : Cond.soleField "LinearRows" "made" ∈ wG := List.mem_filter.mpr ⟨List.mem_append_right _ (List.mem_append_left _ (List.mem_of_getElem? (i := 91) rfl)), rfl⟩
theorem wm_1_92 : Cond.laysFinal "LinearRows" "LinearRows" "left" "LLinearRows$Table;" ∈ wG := List.mem_filter.mpr ⟨List.mem_append_right _ (List.mem_append_left _ (List.mem_of_getElem? (i := 92) rfl)), rfl⟩
theorem wm_1_93 : Cond.soleField "LinearRows" "left" ∈ wG := List.mem_filter.mpr ⟨List.mem_append_right _ (List.mem_append_left _ (List.mem_of_getElem? (i := 93) rfl)), rfl⟩
theorem wm_1_94 : Cond.laysFinal "LinearRows" "LinearRows" "trial" "LLinearRows$Table;" ∈ wG := List.mem_filter.mpr ⟨List.mem_append_right _ (List.mem_append_left _ (List.mem_of_getElem? (i := 94) rfl)), rfl⟩
theorem wm_1_95 : Cond.soleField "LinearRows" "trial" ∈ wG := List.mem_filter.mpr ⟨List.mem_append_right _ (List.mem_append_left _ (List.mem_of_getElem? (i := 95) rfl)), rfl⟩
theorem wm_1_96 : Cond.laysFinal "LinearRows" "LinearRows" "numbers" "[J" ∈ wG := List.mem_filter.mpr ⟨List.mem_append_right _ (List.mem_append_left _ (List.mem_of_getElem? (i := 96) rfl)), rfl⟩
theorem wm_1_97 : Cond.soleField "LinearRows" "numbers" ∈ wG := List.mem_filter.mpr ⟨List.mem_append_right _ (List.mem_append_left _ (List.mem_of_getElem? (i := 97) rfl)), rfl⟩
theorem wm_1_98 : Cond.laysFinal "LinearRows" "LinearRows" "neededRows" "[J" ∈ wG := List.mem_filter.mpr ⟨List.mem_append_right _ (List.mem_append_left _ (List.mem_of_getElem? (i := 98) rfl)), rfl⟩
theorem wm_1_99 : Cond.soleField "LinearRows" "neededRows" ∈ wG := List.mem_filter.mpr ⟨List.mem_append_right _ (List.mem_append_left _ (List.mem_of_getElem? (i := 99) rfl)), rfl⟩
theorem wm_1_100 : Cond.lays "LinearRows" "LinearRows" "neededCount" "I" ∈ wG := List.mem_filter.mpr ⟨List.mem_append_right _ (List.mem_append_left _ (List.mem_of_getElem? (i := 100) rfl)), rfl⟩
theorem wm_1_101 : Cond.soleField "LinearRows" "neededCount" ∈ wG := List.mem_filter.mpr ⟨List.mem_append_right _ (List.mem_append_left _ (List.mem_of_getElem? (i := 101) rfl)), rfl⟩
theorem wm_1_102 : Cond.superclass "LinearRows" "java/lang/Object" ∈ wG := List.mem_filter.mpr ⟨List.mem_append_right _ (List.mem_append_left _ (List.mem_of_getElem? (i := 102) rfl)), rfl⟩
theorem wm_1_103 : Cond.methodLink "LinearRowsLaw" 91 y_L_cell ∈ wG := List.mem_filter.mpr ⟨List.mem_append_right _ (List.mem_append_left _ (List.mem_of_getElem? (i := 103) rfl)), rfl⟩
theorem wm_1_104 : Cond.static y_L_cell ∈ wG := List.mem_filter.mpr ⟨List.mem_append_right _ (List.mem_append_left _ (List.mem_of_getElem? (i := 104) rfl)), rfl⟩
theorem wm_1_105 : Cond.code y_L_cell b_L_cell 2 (some .int) ∈ wG := List.mem_filter.mpr ⟨List.mem_append_right _ (List.mem_append_left _ (List.mem_of_getElem? (i := 105) rfl)), rfl⟩
theorem wm_1_106 : Cond.methodLink "LinearRowsLaw" 102 y_L_all ∈ wG := List.mem_filter.mpr ⟨List.mem_append_right _ (List.mem_append_left _ (List.mem_of_getElem? (i := 106) rfl)), rfl⟩
theorem wm_1_107 : Cond.static y_L_all ∈ wG := List.mem_filter.mpr ⟨List.mem_append_right _ (List.mem_append_left _ (List.mem_of_getElem? (i := 107) rfl)), rfl⟩
theorem wm_1_108 : Cond.codeWith y_L_all b_L_all 3 (some .int) h_L_all ∈ wG := List.mem_filter.mpr ⟨List.mem_append_right _ (List.mem_append_left _ (List.mem_of_getElem? (i := 108) rfl)), rfl⟩
theorem wm_1_109 : Cond.classLink "LinearRowsLaw" 13 "java/lang/IndexOutOfBoundsException" ∈ wG := List.mem_filter.mpr ⟨List.mem_append_right _ (List.mem_append_left _ (List.mem_of_getElem? (i := 109) rfl)), rfl⟩
theorem wm_1_110 : Cond.methodLink "LinearRowsLaw" 7 y_X_all ∈ wG := List.mem_filter.mpr ⟨List.mem_append_right _ (List.mem_append_left _ (List.mem_of_getElem? (i := 110) rfl)), rfl⟩
theorem wm_1_111 : Cond.instanceMethod y_X_all ∈ wG := List.mem_filter.mpr ⟨List.mem_append_right _ (List.mem_append_left _ (List.mem_of_getElem? (i := 111) rfl)), rfl⟩
theorem wm_1_112 : Cond.selects "LinearRows" y_X_all y_X_all ∈ wG := List.mem_filter.mpr ⟨List.mem_append_right _ (List.mem_append_left _ (List.mem_of_getElem? (i := 112) rfl)), rfl⟩
theorem wm_1_113 : Cond.code y_X_all b_X_all 2 none ∈ wG := List.mem_filter.mpr ⟨List.mem_append_right _ (List.mem_append_left _ (List.mem_of_getElem? (i := 113) rfl)), rfl⟩
theorem wm_1_114 : Cond.methodLink "LinearRows" 58 y_X_checkShape ∈ wG := List.mem_filter.mpr ⟨List.mem_append_right _ (List.mem_append_left _ (List.mem_of_getElem? (i := 114) rfl)), rfl⟩
theorem wm_1_115 : Cond.static y_X_checkShape ∈ wG := List.mem_filter.mpr ⟨List.mem_append_right _ (List.mem_append_left _ (List.mem_of_getElem? (i := 115) rfl)), rfl⟩
theorem wm_1_116 : Cond.code y_X_checkShape b_X_checkShape 1 none ∈ wG := List.mem_filter.mpr ⟨List.mem_append_right _ (List.mem_append_left _ (List.mem_of_getElem? (i := 116) rfl)), rfl⟩
theorem wm_1_117 : Cond.classLink "LinearRows" 163 "java/lang/IndexOutOfBoundsException" ∈ wG := List.mem_filter.mpr ⟨List.mem_append_right _ (List.mem_append_left _ (List.mem_of_getElem? (i := 117) rfl)), rfl⟩
theorem wm_1_118 : Cond.instantiable "java/lang/IndexOutOfBoundsException" 6 ∈ wG := List.mem_filter.mpr ⟨List.mem_append_right _ (List.mem_append_left _ (List.mem_of_getElem? (i := 118) rfl)), rfl⟩
theorem wm_1_126 : Cond.selects "java/lang/IndexOutOfBoundsException" ⟨"java/lang/Throwable", "fillInStackTrace", "(I)Ljava/lang/Throwable;"⟩ ⟨"java/lang/Throwable", "fillInStackTrace", "(I)Ljava/lang/Throwable;"⟩ ∈ wG := List.mem_filter.mpr ⟨List.mem_append_right _ (List.mem_append_left _ (List.mem_of_getElem? (i := 126) rfl)), rfl⟩
theorem wm_1_127 : Cond.selects "java/lang/IndexOutOfBoundsException" ⟨"java/lang/Throwable", "fillInStackTrace", "()Ljava/lang/Throwable;"⟩ ⟨"java/lang/Throwable", "fillInStackTrace", "()Ljava/lang/Throwable;"⟩ ∈ wG := List.mem_filter.mpr ⟨List.mem_append_right _ (List.mem_append_left _ (List.mem_of_getElem? (i := 127) rfl)), rfl⟩
theorem wm_1_128 : Cond.lays "java/lang/IndexOutOfBoundsException" "java/lang/Throwable" "cause" "Ljava/lang/Throwable;" ∈ wG := List.mem_filter.mpr ⟨List.mem_append_right _ (List.mem_append_left _ (List.mem_of_getElem? (i := 128) rfl)), rfl⟩
theorem wm_1_129 : Cond.lays "java/lang/Throwable" "java/lang/Throwable" "cause" "Ljava/lang/Throwable;" ∈ wG := List.mem_filter.mpr ⟨List.mem_append_right _ (List.mem_append_left _ (List.mem_of_getElem? (i := 129) rfl)), rfl⟩
theorem wm_1_130 : Cond.lays "java/lang/IndexOutOfBoundsException" "java/lang/Throwable" "stackTrace" "[Ljava/lang/StackTraceElement;" ∈ wG := List.mem_filter.mpr ⟨List.mem_append_right _ (List.mem_append_left _ (List.mem_of_getElem? (i := 130) rfl)), rfl⟩
theorem wm_1_131 : Cond.lays "java/lang/Throwable" "java/lang/Throwable" "stackTrace" "[Ljava/lang/StackTraceElement;" ∈ wG := List.mem_filter.mpr ⟨List.mem_append_right _ (List.mem_append_left _ (List.mem_of_getElem? (i := 131) rfl)), rfl⟩
theorem wm_1_132 : Cond.lays "java/lang/IndexOutOfBoundsException" "java/lang/Throwable" "suppressedExceptions" "Ljava/util/List;" ∈ wG := List.mem_filter.mpr ⟨List.mem_append_right _ (List.mem_append_left _ (List.mem_of_getElem? (i := 132) rfl)), rfl⟩
theorem wm_1_133 : Cond.lays "java/lang/Throwable" "java/lang/Throwable" "suppressedExceptions" "Ljava/util/List;" ∈ wG := List.mem_filter.mpr ⟨List.mem_append_right _ (List.mem_append_left _ (List.mem_of_getElem? (i := 133) rfl)), rfl⟩
theorem wm_1_134 : Cond.lays "java/lang/IndexOutOfBoundsException" "java/lang/Throwable" "detailMessage" "Ljava/lang/String;" ∈ wG := List.mem_filter.mpr ⟨List.mem_append_right _ (List.mem_append_left _ (List.mem_of_getElem? (i := 134) rfl)), rfl⟩
theorem wm_1_135 : Cond.lays "java/lang/Throwable" "java/lang/Throwable" "detailMessage" "Ljava/lang/String;" ∈ wG := List.mem_filter.mpr ⟨List.mem_append_right _ (List.mem_append_left _ (List.mem_of_getElem? (i := 135) rfl)), rfl⟩
theorem wm_1_136 : Cond.lays "java/lang/IndexOutOfBoundsException" "java/lang/Throwable" "backtrace" "Ljava/lang/Object;" ∈ wG := List.mem_filter.mpr ⟨List.mem_append_right _ (List.mem_append_left _ (List.mem_of_getElem? (i := 136) rfl)), rfl⟩
theorem wm_1_137 : Cond.lays "java/lang/Throwable" "java/lang/Throwable" "backtrace" "Ljava/lang/Object;" ∈ wG := List.mem_filter.mpr ⟨List.mem_append_right _ (List.mem_append_left _ (List.mem_of_getElem? (i := 137) rfl)), rfl⟩
theorem wm_1_138 : Cond.fieldLink "java/lang/Throwable" 198 "java/lang/Throwable" "backtrace" "Ljava/lang/Object;" ∈ wG := List.mem_filter.mpr ⟨List.mem_append_right _ (List.mem_append_left _ (List.mem_of_getElem? (i := 138) rfl)), rfl⟩
theorem wm_1_139 : Cond.superclass "java/lang/Throwable" "java/lang/Object" ∈ wG := List.mem_filter.mpr ⟨List.mem_append_right _ (List.mem_append_left _ (List.mem_of_getElem? (i := 139) rfl)), rfl⟩
theorem wm_1_140 : Cond.instanceMethod ⟨"java/lang/Throwable", "<init>", "()V"⟩ ∈ wG := List.mem_filter.mpr ⟨List.mem_append_right _ (List.mem_append_left _ (List.mem_of_getElem? (i := 140) rfl)), rfl⟩
theorem wm_1_142 : Cond.methodLink "java/lang/Throwable" 1 ⟨"java/lang/Object", "<init>", "()V"⟩ ∈ wG := List.mem_filter.mpr ⟨List.mem_append_right _ (List.mem_append_left _ (List.mem_of_getElem? (i := 142) rfl)), rfl⟩
theorem wm_1_143 : Cond.fieldLink "java/lang/Throwable" 13 "java/lang/Throwable" "UNASSIGNED_STACK" "[Ljava/lang/StackTraceElement;" ∈ wG := List.mem_filter.mpr ⟨List.mem_append_right _ (List.mem_append_left _ (List.mem_of_getElem? (i := 143) rfl)), rfl⟩
theorem wm_1_145 : Cond.fieldLink "java/lang/Throwable" 20 "java/lang/Throwable" "SUPPRESSED_SENTINEL" "Ljava/util/List;" ∈ wG := List.mem_filter.mpr ⟨List.mem_append_right _ (List.mem_append_left _ (List.mem_of_getElem? (i := 145) rfl)), rfl⟩
theorem wm_1_147 : Cond.methodLink "java/lang/Throwable" 27 ⟨"java/lang/Throwable", "fillInStackTrace", "()Ljava/lang/Throwable;"⟩ ∈ wG := List.mem_filter.mpr ⟨List.mem_append_right _ (List.mem_append_left _ (List.mem_of_getElem? (i := 147) rfl)), rfl⟩
theorem wm_1_148 : Cond.instanceMethod ⟨"java/lang/Throwable", "fillInStackTrace", "()Ljava/lang/Throwable;"⟩ ∈ wG := List.mem_filter.mpr ⟨List.mem_append_right _ (List.mem_append_left _ (List.mem_of_getElem? (i := 148) rfl)), rfl⟩
theorem wm_1_150 : Cond.selects "java/lang/ArithmeticException" ⟨"java/lang/Throwable", "fillInStackTrace", "()Ljava/lang/Throwable;"⟩ ⟨"java/lang/Throwable", "fillInStackTrace", "()Ljava/lang/Throwable;"⟩ ∈ wG := List.mem_filter.mpr ⟨List.mem_append_right _ (List.mem_append_left _ (List.mem_of_getElem? (i := 150) rfl)), rfl⟩
theorem wm_1_151 : Cond.selects "java/lang/IllegalArgumentException" ⟨"java/lang/Throwable", "fillInStackTrace", "()Ljava/lang/Throwable;"⟩ ⟨"java/lang/Throwable", "fillInStackTrace", "()Ljava/lang/Throwable;"⟩ ∈ wG := List.mem_filter.mpr ⟨List.mem_append_right _ (List.mem_append_left _ (List.mem_of_getElem? (i := 151) rfl)), rfl⟩
theorem wm_1_153 : Cond.methodLink "java/lang/Throwable" 202 ⟨"java/lang/Throwable", "fillInStackTrace", "(I)Ljava/lang/Throwable;"⟩ ∈ wG := List.mem_filter.mpr ⟨List.mem_append_right _ (List.mem_append_left _ (List.mem_of_getElem? (i := 153) rfl)), rfl⟩
theorem wm_1_155 : Cond.instanceMethod ⟨"java/lang/Throwable", "fillInStackTrace", "(I)Ljava/lang/Throwable;"⟩ ∈ wG := List.mem_filter.mpr ⟨List.mem_append_right _ (List.mem_append_left _ (List.mem_of_getElem? (i := 155) rfl)), rfl⟩
theorem wm_1_156 : Cond.instantiable "java/lang/Throwable" 6 ∈ wG := List.mem_filter.mpr ⟨List.mem_append_right _ (List.mem_append_left _ (List.mem_of_getElem? (i := 156) rfl)), rfl⟩
theorem wm_1_157 : Cond.native ⟨"java/lang/Throwable", "fillInStackTrace", "(I)Ljava/lang/Throwable;"⟩ ∈ wG := List.mem_filter.mpr ⟨List.mem_append_right _ (List.mem_append_left _ (List.mem_of_getElem? (i := 157) rfl)), rfl⟩
theorem wm_1_159 : Cond.methodLink "LinearRows" 167 ⟨"java/lang/IndexOutOfBoundsException", "<init>", "(Ljava/lang/String;)V"⟩ ∈ wG := List.mem_filter.mpr ⟨List.mem_append_right _ (List.mem_append_left _ (List.mem_of_getElem? (i := 159) rfl)), rfl⟩
theorem wm_1_160 : Cond.instanceMethod ⟨"java/lang/IndexOutOfBoundsException", "<init>", "(Ljava/lang/String;)V"⟩ ∈ wG := List.mem_filter.mpr ⟨List.mem_append_right _ (List.mem_append_left _ (List.mem_of_getElem? (i := 160) rfl)), rfl⟩
theorem wm_1_162 : Cond.methodLink "java/lang/IndexOutOfBoundsException" 7 ⟨"java/lang/RuntimeException", "<init>", "(Ljava/lang/String;)V"⟩ ∈ wG := List.mem_filter.mpr ⟨List.mem_append_right _ (List.mem_append_left _ (List.mem_of_getElem? (i := 162) rfl)), rfl⟩
theorem wm_1_163 : Cond.instanceMethod ⟨"java/lang/RuntimeException", "<init>", "(Ljava/lang/String;)V"⟩ ∈ wG := List.mem_filter.mpr ⟨List.mem_append_right _ (List.mem_append_left _ (List.mem_of_getElem? (i := 163) rfl)), rfl⟩
theorem wm_1_165 : Cond.methodLink "java/lang/RuntimeException" 7 ⟨"java/lang/Exception", "<init>", "(Ljava/lang/String;)V"⟩ ∈ wG := List.mem_filter.mpr ⟨List.mem_append_right _ (List.mem_append_left _ (List.mem_of_getElem? (i := 165) rfl)), rfl⟩
theorem wm_1_166 : Cond.instanceMethod ⟨"java/lang/Exception", "<init>", "(Ljava/lang/String;)V"⟩ ∈ wG := List.mem_filter.mpr ⟨List.mem_append_right _ (List.mem_append_left _ (List.mem_of_getElem? (i := 166) rfl)), rfl⟩
theorem wm_1_168 : Cond.methodLink "java/lang/Exception" 7 ⟨"java/lang/Throwable", "<init>", "(Ljava/lang/String;)V"⟩ ∈ wG := List.mem_filter.mpr ⟨List.mem_append_right _ (List.mem_append_left _ (List.mem_of_getElem? (i := 168) rfl)), rfl⟩
theorem wm_1_169 : Cond.instanceMethod ⟨"java/lang/Throwable", "<init>", "(Ljava/lang/String;)V"⟩ ∈ wG := List.mem_filter.mpr ⟨List.mem_append_right _ (List.mem_append_left _ (List.mem_of_getElem? (i := 169) rfl)), rfl⟩
theorem wm_1_171 : Cond.fieldLink "java/lang/Throwable" 198 "java/lang/Throwable" "backtrace" "Ljava/lang/Object;" ∈ wG := List.mem_filter.mpr ⟨List.mem_append_right _ (List.mem_append_left _ (List.mem_of_getElem? (i := 171) rfl)), rfl⟩
theorem wm_1_172 : Cond.fieldLink "java/lang/Throwable" 31 "java/lang/Throwable" "detailMessage" "Ljava/lang/String;" ∈ wG := List.mem_filter.mpr ⟨List.mem_append_right _ (List.mem_append_left _ (List.mem_of_getElem? (i := 172) rfl)), rfl⟩
theorem wm_1_173 : Cond.fieldLink "java/lang/Throwable" 7 "java/lang/Throwable" "cause" "Ljava/lang/Throwable;" ∈ wG := List.mem_filter.mpr ⟨List.mem_append_right _ (List.mem_append_left _ (List.mem_of_getElem? (i := 173) rfl)), rfl⟩
theorem wm_1_174 : Cond.fieldLink "java/lang/Throwable" 17 "java/lang/Throwable" "stackTrace" "[Ljava/lang/StackTraceElement;" ∈ wG := List.mem_filter.mpr ⟨List.mem_append_right _ (List.mem_append_left _ (List.mem_of_getElem? (i := 174) rfl)), rfl⟩
theorem wm_1_175 : Cond.fieldLink "java/lang/Throwable" 24 "java/lang/Throwable" "suppressedExceptions" "Ljava/util/List;" ∈ wG := List.mem_filter.mpr ⟨List.mem_append_right _ (List.mem_append_left _ (List.mem_of_getElem? (i := 175) rfl)), rfl⟩
theorem wm_1_176 : Cond.soleField "java/lang/Throwable" "backtrace" ∈ wG := List.mem_filter.mpr ⟨List.mem_append_right _ (List.mem_append_left _ (List.mem_of_getElem? (i := 176) rfl)), rfl⟩
theorem wm_1_177 : Cond.soleField "java/lang/Throwable" "detailMessage" ∈ wG := List.mem_filter.mpr ⟨List.mem_append_right _ (List.mem_append_left _ (List.mem_of_getElem? (i := 177) rfl)), rfl⟩
theorem wm_1_178 : Cond.soleField "java/lang/Throwable" "cause" ∈ wG := List.mem_filter.mpr ⟨List.mem_append_right _ (List.mem_append_left _ (List.mem_of_getElem? (i := 178) rfl)), rfl⟩
theorem wm_1_179 : Cond.soleField "java/lang/Throwable" "stackTrace" ∈ wG := List.mem_filter.mpr ⟨List.mem_append_right _ (List.mem_append_left _ (List.mem_of_getElem? (i := 179) rfl)), rfl⟩
theorem wm_1_180 : Cond.lays "java/lang/IndexOutOfBoundsException" "java/lang/Throwable" "depth" "I" ∈ wG := List.mem_filter.mpr ⟨List.mem_append_right _ (List.mem_append_left _ (List.mem_of_getElem? (i := 180) rfl)), rfl⟩
theorem wm_1_181 : Cond.soleField "java/lang/Throwable" "depth" ∈ wG := List.mem_filter.mpr ⟨List.mem_append_right _ (List.mem_append_left _ (List.mem_of_getElem? (i := 181) rfl)), rfl⟩
theorem wm_1_182 : Cond.soleField "java/lang/Throwable" "suppressedExceptions" ∈ wG := List.mem_filter.mpr ⟨List.mem_append_right _ (List.mem_append_left _ (List.mem_of_getElem? (i := 182) rfl)), rfl⟩
theorem wm_1_183 : Cond.superclass "java/lang/IndexOutOfBoundsException" "java/lang/RuntimeException" ∈ wG := List.mem_filter.mpr ⟨List.mem_append_right _ (List.mem_append_left _ (List.mem_of_getElem? (i := 183) rfl)), rfl⟩
theorem wm_1_184 : Cond.arrayClass FieldType.byte ∈ wG := List.mem_filter.mpr ⟨List.mem_append_right _ (List.mem_append_left _ (List.mem_of_getElem? (i := 184) rfl)), rfl⟩
theorem wm_1_185 : Cond.methodLink "LinearRows" 61 y_S_becomeAll ∈ wG := List.mem_filter.mpr ⟨List.mem_append_right _ (List.mem_append_left _ (List.mem_of_getElem? (i := 185) rfl)), rfl⟩
theorem wm_1_186 : Cond.instanceMethod y_S_becomeAll ∈ wG := List.mem_filter.mpr ⟨List.mem_append_right _ (List.mem_append_left _ (List.mem_of_getElem? (i := 186) rfl)), rfl⟩
theorem wm_1_187 : Cond.selects "LinearRows$Shape" y_S_becomeAll y_S_becomeAll ∈ wG := List.mem_filter.mpr ⟨List.mem_append_right _ (List.mem_append_left _ (List.mem_of_getElem? (i := 187) rfl)), rfl⟩
theorem wm_1_188 : Cond.code y_S_becomeAll b_S_becomeAll 1 none ∈ wG := List.mem_filter.mpr ⟨List.mem_append_right _ (List.mem_append_left _ (List.mem_of_getElem? (i := 188) rfl)), rfl⟩
theorem wm_1_189 : Cond.methodLink "LinearRows$Shape" 35 y_T_dropRows ∈ wG := List.mem_filter.mpr ⟨List.mem_append_right _ (List.mem_append_left _ (List.mem_of_getElem? (i := 189) rfl)), rfl⟩
theorem wm_1_190 : Cond.instanceMethod y_T_dropRows ∈ wG := List.mem_filter.mpr ⟨List.mem_append_right _ (List.mem_append_left _ (List.mem_of_getElem? (i := 190) rfl)), rfl⟩
theorem wm_1_191 : Cond.selects "LinearRows$Table" y_T_dropRows y_T_dropRows ∈ wG := List.mem_filter.mpr ⟨List.mem_append_right _ (List.mem_append_left _ (List.mem_of_getElem? (i := 191) rfl)), rfl⟩
theorem wm_1_192 : Cond.code y_T_dropRows b_T_dropRows 1 none ∈ wG := List.mem_filter.mpr ⟨List.mem_append_right _ (List.mem_append_left _ (List.mem_of_getElem? (i := 192) rfl)), rfl⟩
theorem wm_1_193 : Cond.methodLink "LinearRowsLaw" 112 y_L_row ∈ wG := List.mem_filter.mpr ⟨List.mem_append_right _ (List.mem_append_left _ (List.mem_of_getElem? (i := 193) rfl)), rfl⟩
theorem wm_1_194 : Cond.static y_L_row ∈ wG := List.mem_filter.mpr ⟨List.mem_append_right _ (List.mem_append_left _ (List.mem_of_getElem? (i := 194) rfl)), rfl⟩
theorem wm_1_195 : Cond.codeWith y_L_row b_L_row 8 (some .int) h_L_row ∈ wG := List.mem_filter.mpr ⟨List.mem_append_right _ (List.mem_append_left _ (List.mem_of_getElem? (i := 195) rfl)), rfl⟩
theorem wm_1_196 : Cond.classLink "LinearRowsLaw" 19 "java/lang/IllegalArgumentException" ∈ wG := List.mem_filter.mpr ⟨List.mem_append_right _ (List.mem_append_left _ (List.mem_of_getElem? (i := 196) rfl)), rfl⟩
theorem wm_1_197 : Cond.classLink "LinearRowsLaw" 21 "java/lang/ArithmeticException" ∈ wG := List.mem_filter.mpr ⟨List.mem_append_right _ (List.mem_append_left _ (List.mem_of_getElem? (i := 197) rfl)), rfl⟩
theorem wm_1_198 : Cond.methodLink "LinearRowsLaw" 15 y_X_row ∈ wG := List.mem_filter.mpr ⟨List.mem_append_right _ (List.mem_append_left _ (List.mem_of_getElem? (i := 198) rfl)), rfl⟩
theorem wm_1_199 : Cond.instanceMethod y_X_row ∈ wG := List.mem_filter.mpr ⟨List.mem_append_right _ (List.mem_append_left _ (List.mem_of_getElem? (i := 199) rfl)), rfl⟩
theorem wm_1_200 : Cond.selects "LinearRows" y_X_row y_X_row ∈ wG := List.mem_filter.mpr ⟨List.mem_append_right _ (List.mem_append_left _ (List.mem_of_getElem? (i := 200) rfl)), rfl⟩
theorem wm_1_201 : Cond.code y_X_row b_X_row 6 (some .int) ∈ wG := List.mem_filter.mpr ⟨List.mem_append_right _ (List.mem_append_left _ (List.mem_of_getElem? (i := 201) rfl)), rfl⟩
theorem wm_1_202 : Cond.methodLink "LinearRows" 64 y_X_checkTerm ∈ wG := List.mem_filter.mpr ⟨List.mem_append_right _ (List.mem_append_left _ (List.mem_of_getElem? (i := 202) rfl)), rfl⟩
theorem wm_1_204 : Cond.instanceMethod y_X_checkTerm ∈ wG := List.mem_filter.mpr ⟨List.mem_append_right _ (List.mem_append_left _ (List.mem_of_getElem? (i := 204) rfl)), rfl⟩
theorem wm_1_205 : Cond.code y_X_checkTerm b_X_checkTerm 2 none ∈ wG := List.mem_filter.mpr ⟨List.mem_append_right _ (List.mem_append_left _ (List.mem_of_getElem? (i := 205) rfl)), rfl⟩
theorem wm_1_207 : Cond.methodLink "LinearRows" 67 y_X_checkGiven ∈ wG := List.mem_filter.mpr ⟨List.mem_append_right _ (List.mem_append_left _ (List.mem_of_getElem? (i := 207) rfl)), rfl⟩
theorem wm_1_208 : Cond.static y_X_checkGiven ∈ wG := List.mem_filter.mpr ⟨List.mem_append_right _ (List.mem_append_left _ (List.mem_of_getElem? (i := 208) rfl)), rfl⟩
theorem wm_1_209 : Cond.code y_X_checkGiven b_X_checkGiven 2 none ∈ wG := List.mem_filter.mpr ⟨List.mem_append_right _ (List.mem_append_left _ (List.mem_of_getElem? (i := 209) rfl)), rfl⟩
theorem wm_1_210 : Cond.constantLong "LinearRows" 202 (-1000000000) ∈ wG := List.mem_filter.mpr ⟨List.mem_append_right _ (List.mem_append_left _ (List.mem_of_getElem? (i := 210) rfl)), rfl⟩
theorem wm_1_211 : Cond.constantLong "LinearRows" 204 1000000000 ∈ wG := List.mem_filter.mpr ⟨List.mem_append_right _ (List.mem_append_left _ (List.mem_of_getElem? (i := 211) rfl)), rfl⟩
theorem wm_1_212 : Cond.classLink "LinearRows" 170 "java/lang/IllegalArgumentException" ∈ wG := List.mem_filter.mpr ⟨List.mem_append_right _ (List.mem_append_left _ (List.mem_of_getElem? (i := 212) rfl)), rfl⟩
theorem wm_1_213 : Cond.instantiable "java/lang/IllegalArgumentException" 6 ∈ wG := List.mem_filter.mpr ⟨List.mem_append_right _ (List.mem_append_left _ (List.mem_of_getElem? (i := 213) rfl)), rfl⟩
theorem wm_1_215 : Cond.selects "java/lang/IllegalArgumentException" ⟨"java/lang/Throwable", "fillInStackTrace", "(I)Ljava/lang/Throwable;"⟩ ⟨"java/lang/Throwable", "fillInStackTrace", "(I)Ljava/lang/Throwable;"⟩ ∈ wG := List.mem_filter.mpr ⟨List.mem_append_right _ (List.mem_append_left _ (List.mem_of_getElem? (i := 215) rfl)), rfl⟩
theorem wm_1_216 : Cond.lays "java/lang/IllegalArgumentException" "java/lang/Throwable" "cause" "Ljava/lang/Throwable;" ∈ wG := List.mem_filter.mpr ⟨List.mem_append_right _ (List.mem_append_left _ (List.mem_of_getElem? (i := 216) rfl)), rfl⟩
theorem wm_1_217 : Cond.lays "java/lang/IllegalArgumentException" "java/lang/Throwable" "stackTrace" "[Ljava/lang/StackTraceElement;" ∈ wG := List.mem_filter.mpr ⟨List.mem_append_right _ (List.mem_append_left _ (List.mem_of_getElem? (i := 217) rfl)), rfl⟩
theorem wm_1_218 : Cond.lays "java/lang/IllegalArgumentException" "java/lang/Throwable" "suppressedExceptions" "Ljava/util/List;" ∈ wG := List.mem_filter.mpr ⟨List.mem_append_right _ (List.mem_append_left _ (List.mem_of_getElem? (i := 218) rfl)), rfl⟩
theorem wm_1_219 : Cond.lays "java/lang/IllegalArgumentException" "java/lang/Throwable" "detailMessage" "Ljava/lang/String;" ∈ wG := List.mem_filter.mpr ⟨List.mem_append_right _ (List.mem_append_left _ (List.mem_of_getElem? (i := 219) rfl)), rfl⟩
theorem wm_1_220 : Cond.lays "java/lang/IllegalArgumentException" "java/lang/Throwable" "backtrace" "Ljava/lang/Object;" ∈ wG := List.mem_filter.mpr ⟨List.mem_append_right _ (List.mem_append_left _ (List.mem_of_getElem? (i := 220) rfl)), rfl⟩
theorem wm_1_222 : Cond.methodLink "LinearRows" 174 ⟨"java/lang/IllegalArgumentException", "<init>", "(Ljava/lang/String;)V"⟩ ∈ wG := List.mem_filter.mpr ⟨List.mem_append_right _ (List.mem_append_left _ (List.mem_of_getElem? (i := 222) rfl)), rfl⟩
theorem wm_1_223 : Cond.instanceMethod ⟨"java/lang/IllegalArgumentException", "<init>", "(Ljava/lang/String;)V"⟩ ∈ wG := List.mem_filter.mpr ⟨List.mem_append_right _ (List.mem_append_left _ (List.mem_of_getElem? (i := 223) rfl)), rfl⟩
theorem wm_1_225 : Cond.methodLink "java/lang/IllegalArgumentException" 7 ⟨"java/lang/RuntimeException", "<init>", "(Ljava/lang/String;)V"⟩ ∈ wG := List.mem_filter.mpr ⟨List.mem_append_right _ (List.mem_append_left _ (List.mem_of_getElem? (i := 225) rfl)), rfl⟩
theorem wm_1_226 : Cond.lays "java/lang/IllegalArgumentException" "java/lang/Throwable" "depth" "I" ∈ wG := List.mem_filter.mpr ⟨List.mem_append_right _ (List.mem_append_left _ (List.mem_of_getElem? (i := 226) rfl)), rfl⟩
theorem wm_1_227 : Cond.superclass "java/lang/IllegalArgumentException" "java/lang/RuntimeException" ∈ wG := List.mem_filter.mpr ⟨List.mem_append_right _ (List.mem_append_left _ (List.mem_of_getElem? (i := 227) rfl)), rfl⟩
theorem wm_1_228 : Cond.methodLink "LinearRows" 71 y_S_becomeLike ∈ wG := List.mem_filter.mpr ⟨List.mem_append_right _ (List.mem_append_left _ (List.mem_of_getElem? (i := 228) rfl)), rfl⟩
theorem wm_1_229 : Cond.instanceMethod y_S_becomeLike ∈ wG := List.mem_filter.mpr ⟨List.mem_append_right _ (List.mem_append_left _ (List.mem_of_getElem? (i := 229) rfl)), rfl⟩
theorem wm_1_230 : Cond.selects "LinearRows$Shape" y_S_becomeLike y_S_becomeLike ∈ wG := List.mem_filter.mpr ⟨List.mem_append_right _ (List.mem_append_left _ (List.mem_of_getElem? (i := 230) rfl)), rfl⟩
theorem wm_1_231 : Cond.code y_S_becomeLike b_S_becomeLike 2 none ∈ wG := List.mem_filter.mpr ⟨List.mem_append_right _ (List.mem_append_left _ (List.mem_of_getElem? (i := 231) rfl)), rfl⟩
theorem wm_1_232 : Cond.methodLink "LinearRows$Shape" 41 y_T_takeFrom ∈ wG := List.mem_filter.mpr ⟨List.mem_append_right _ (List.mem_append_left _ (List.mem_of_getElem? (i := 232) rfl)), rfl⟩
theorem wm_1_233 : Cond.instanceMethod y_T_takeFrom ∈ wG := List.mem_filter.mpr ⟨List.mem_append_right _ (List.mem_append_left _ (List.mem_of_getElem? (i := 233) rfl)), rfl⟩
theorem wm_1_234 : Cond.selects "LinearRows$Table" y_T_takeFrom y_T_takeFrom ∈ wG := List.mem_filter.mpr ⟨List.mem_append_right _ (List.mem_append_left _ (List.mem_of_getElem? (i := 234) rfl)), rfl⟩
theorem wm_1_235 : Cond.code y_T_takeFrom b_T_takeFrom 2 none ∈ wG := List.mem_filter.mpr ⟨List.mem_append_right _ (List.mem_append_left _ (List.mem_of_getElem? (i := 235) rfl)), rfl⟩
theorem wm_1_236 : Cond.methodLink "LinearRows$Table" 51 y_JM_min ∈ wG := List.mem_filter.mpr ⟨List.mem_append_right _ (List.mem_append_left _ (List.mem_of_getElem? (i := 236) rfl)), rfl⟩
theorem wm_1_237 : Cond.methodLink "LinearRows$Table" 54 ⟨"java/lang/System", "arraycopy", "(Ljava/lang/Object;ILjava/lang/Object;II)V"⟩ ∈ wG := List.mem_filter.mpr ⟨List.mem_append_right _ (List.mem_append_left _ (List.mem_of_getElem? (i := 237) rfl)), rfl⟩
theorem wm_1_238 : Cond.static ⟨"java/lang/System", "arraycopy", "(Ljava/lang/Object;ILjava/lang/Object;II)V"⟩ ∈ wG := List.mem_filter.mpr ⟨List.mem_append_right _ (List.mem_append_left _ (List.mem_of_getElem? (i := 238) rfl)), rfl⟩
theorem wm_1_239 : Cond.native ⟨"java/lang/System", "arraycopy", "(Ljava/lang/Object;ILjava/lang/Object;II)V"⟩ ∈ wG := List.mem_filter.mpr ⟨List.mem_append_right _ (List.mem_append_left _ (List.mem_of_getElem? (i := 239) rfl)), rfl⟩
theorem wm_2_0 : Cond.methodLink "LinearRows" 75 y_S_addRow ∈ wG := List.mem_filter.mpr ⟨List.mem_append_right _ (List.mem_append_right _ (List.mem_append_left _ (List.mem_of_getElem? (i := 0) rfl))), rfl⟩
theorem wm_2_1 : Cond.instanceMethod y_S_addRow ∈ wG := List.mem_filter.mpr ⟨List.mem_append_right _ (List.mem_append_right _ (List.mem_append_left _ (List.mem_of_getElem? (i := 1) rfl))), rfl⟩
theorem wm_2_2 : Cond.selects "LinearRows$Shape" y_S_addRow y_S_addRow ∈ wG := List.mem_filter.mpr ⟨List.mem_append_right _ (List.mem_append_right _ (List.mem_append_left _ (List.mem_of_getElem? (i := 2) rfl))), rfl⟩
theorem wm_2_3 : Cond.code y_S_addRow b_S_addRow 6 none ∈ wG := List.mem_filter.mpr ⟨List.mem_append_right _ (List.mem_append_right _ (List.mem_append_left _ (List.mem_of_getElem? (i := 3) rfl))), rfl⟩
theorem wm_2_4 : Cond.methodLink "LinearRows$Shape" 51 y_S_becomeEmpty ∈ wG := List.mem_filter.mpr ⟨List.mem_append_right _ (List.mem_append_right _ (List.mem_append_left _ (List.mem_of_getElem? (i := 4) rfl))), rfl⟩
theorem wm_2_5 : Cond.instanceMethod y_S_becomeEmpty ∈ wG := List.mem_filter.mpr ⟨List.mem_append_right _ (List.mem_append_right _ (List.mem_append_left _ (List.mem_of_getElem? (i := 5) rfl))), rfl⟩
theorem wm_2_6 : Cond.selects "LinearRows$Shape" y_S_becomeEmpty y_S_becomeEmpty ∈ wG := List.mem_filter.mpr ⟨List.mem_append_right _ (List.mem_append_right _ (List.mem_append_left _ (List.mem_of_getElem? (i := 6) rfl))), rfl⟩
theorem wm_2_7 : Cond.code y_S_becomeEmpty b_S_becomeEmpty 1 none ∈ wG := List.mem_filter.mpr ⟨List.mem_append_right _ (List.mem_append_right _ (List.mem_append_left _ (List.mem_of_getElem? (i := 7) rfl))), rfl⟩
theorem wm_2_8 : Cond.methodLink "LinearRows$Shape" 38 y_S_becomeAll ∈ wG := List.mem_filter.mpr ⟨List.mem_append_right _ (List.mem_append_right _ (List.mem_append_left _ (List.mem_of_getElem? (i := 8) rfl))), rfl⟩
theorem wm_2_10 : Cond.static y_X_placeOf ∈ wG := List.mem_filter.mpr ⟨List.mem_append_right _ (List.mem_append_right _ (List.mem_append_left _ (List.mem_of_getElem? (i := 10) rfl))), rfl⟩
theorem wm_2_11 : Cond.code y_X_placeOf b_X_placeOf 1 (some .int) ∈ wG := List.mem_filter.mpr ⟨List.mem_append_right _ (List.mem_append_right _ (List.mem_append_left _ (List.mem_of_getElem? (i := 11) rfl))), rfl⟩
theorem wm_2_12 : Cond.constantLong "LinearRows$Shape" 58 2 ∈ wG := List.mem_filter.mpr ⟨List.mem_append_right _ (List.mem_append_right _ (List.mem_append_left _ (List.mem_of_getElem? (i := 12) rfl))), rfl⟩
theorem wm_2_13 : Cond.methodLink "LinearRows$Shape" 60 y_T_lowerTo ∈ wG := List.mem_filter.mpr ⟨List.mem_append_right _ (List.mem_append_right _ (List.mem_append_left _ (List.mem_of_getElem? (i := 13) rfl))), rfl⟩
theorem wm_2_14 : Cond.instanceMethod y_T_lowerTo ∈ wG := List.mem_filter.mpr ⟨List.mem_append_right _ (List.mem_append_right _ (List.mem_append_left _ (List.mem_of_getElem? (i := 14) rfl))), rfl⟩
theorem wm_2_15 : Cond.selects "LinearRows$Table" y_T_lowerTo y_T_lowerTo ∈ wG := List.mem_filter.mpr ⟨List.mem_append_right _ (List.mem_append_right _ (List.mem_append_left _ (List.mem_of_getElem? (i := 15) rfl))), rfl⟩
theorem wm_2_16 : Cond.code y_T_lowerTo b_T_lowerTo 5 none ∈ wG := List.mem_filter.mpr ⟨List.mem_append_right _ (List.mem_append_right _ (List.mem_append_left _ (List.mem_of_getElem? (i := 16) rfl))), rfl⟩
theorem wm_2_17 : Cond.methodLink "LinearRows$Table" 27 y_T_at ∈ wG := List.mem_filter.mpr ⟨List.mem_append_right _ (List.mem_append_right _ (List.mem_append_left _ (List.mem_of_getElem? (i := 17) rfl))), rfl⟩
theorem wm_2_18 : Cond.instanceMethod y_T_at ∈ wG := List.mem_filter.mpr ⟨List.mem_append_right _ (List.mem_append_right _ (List.mem_append_left _ (List.mem_of_getElem? (i := 18) rfl))), rfl⟩
theorem wm_2_19 : Cond.selects "LinearRows$Table" y_T_at y_T_at ∈ wG := List.mem_filter.mpr ⟨List.mem_append_right _ (List.mem_append_right _ (List.mem_append_left _ (List.mem_of_getElem? (i := 19) rfl))), rfl⟩
theorem wm_2_20 : Cond.code y_T_at b_T_at 3 (some .long) ∈ wG := List.mem_filter.mpr ⟨List.mem_append_right _ (List.mem_append_right _ (List.mem_append_left _ (List.mem_of_getElem? (i := 20) rfl))), rfl⟩
theorem wm_2_21 : Cond.methodLink "LinearRows$Table" 41 y_JM_min_JJJ ∈ wG := List.mem_filter.mpr ⟨List.mem_append_right _ (List.mem_append_right _ (List.mem_append_left _ (List.mem_of_getElem? (i := 21) rfl))), rfl⟩
theorem wm_2_22 : Cond.static y_JM_min_JJJ ∈ wG := List.mem_filter.mpr ⟨List.mem_append_right _ (List.mem_append_right _ (List.mem_append_left _ (List.mem_of_getElem? (i := 22) rfl))), rfl⟩
theorem wm_2_23 : Cond.code y_JM_min_JJJ b_JM_min_JJJ 4 (some .long) ∈ wG := List.mem_filter.mpr ⟨List.mem_append_right _ (List.mem_append_right _ (List.mem_append_left _ (List.mem_of_getElem? (i := 23) rfl))), rfl⟩
theorem wm_2_24 : Cond.methodLink "LinearRows$Table" 47 y_T_store ∈ wG := List.mem_filter.mpr ⟨List.mem_append_right _ (List.mem_append_right _ (List.mem_append_left _ (List.mem_of_getElem? (i := 24) rfl))), rfl⟩
theorem wm_2_25 : Cond.instanceMethod y_T_store ∈ wG := List.mem_filter.mpr ⟨List.mem_append_right _ (List.mem_append_right _ (List.mem_append_left _ (List.mem_of_getElem? (i := 25) rfl))), rfl⟩
theorem wm_2_26 : Cond.selects "LinearRows$Table" y_T_store y_T_store ∈ wG := List.mem_filter.mpr ⟨List.mem_append_right _ (List.mem_append_right _ (List.mem_append_left _ (List.mem_of_getElem? (i := 26) rfl))), rfl⟩
theorem wm_2_27 : Cond.code y_T_store b_T_store 5 none ∈ wG := List.mem_filter.mpr ⟨List.mem_append_right _ (List.mem_append_right _ (List.mem_append_left _ (List.mem_of_getElem? (i := 27) rfl))), rfl⟩
theorem wm_2_28 : Cond.methodLink "LinearRows$Shape" 64 y_JM_floorDiv ∈ wG := List.mem_filter.mpr ⟨List.mem_append_right _ (List.mem_append_right _ (List.mem_append_left _ (List.mem_of_getElem? (i := 28) rfl))), rfl⟩
theorem wm_2_29 : Cond.static y_JM_floorDiv ∈ wG := List.mem_filter.mpr ⟨List.mem_append_right _ (List.mem_append_right _ (List.mem_append_left _ (List.mem_of_getElem? (i := 29) rfl))), rfl⟩
theorem wm_2_30 : Cond.code y_JM_floorDiv b_JM_floorDiv 6 (some .long) ∈ wG := List.mem_filter.mpr ⟨List.mem_append_right _ (List.mem_append_right _ (List.mem_append_left _ (List.mem_of_getElem? (i := 30) rfl))), rfl⟩
theorem wm_2_31 : Cond.methodLink "LinearRows$Shape" 70 y_S_closeKeptRows ∈ wG := List.mem_filter.mpr ⟨List.mem_append_right _ (List.mem_append_right _ (List.mem_append_left _ (List.mem_of_getElem? (i := 31) rfl))), rfl⟩
theorem wm_2_33 : Cond.instanceMethod y_S_closeKeptRows ∈ wG := List.mem_filter.mpr ⟨List.mem_append_right _ (List.mem_append_right _ (List.mem_append_left _ (List.mem_of_getElem? (i := 33) rfl))), rfl⟩
theorem wm_2_34 : Cond.code y_S_closeKeptRows b_S_closeKeptRows 1 none ∈ wG := List.mem_filter.mpr ⟨List.mem_append_right _ (List.mem_append_right _ (List.mem_append_left _ (List.mem_of_getElem? (i := 34) rfl))), rfl⟩
theorem wm_2_35 : Cond.methodLink "LinearRows$Shape" 111 y_T_close ∈ wG := List.mem_filter.mpr ⟨List.mem_append_right _ (List.mem_append_right _ (List.mem_append_left _ (List.mem_of_getElem? (i := 35) rfl))), rfl⟩
theorem wm_2_36 : Cond.instanceMethod y_T_close ∈ wG := List.mem_filter.mpr ⟨List.mem_append_right _ (List.mem_append_right _ (List.mem_append_left _ (List.mem_of_getElem? (i := 36) rfl))), rfl⟩
theorem wm_2_37 : Cond.selects "LinearRows$Table" y_T_close y_T_close ∈ wG := List.mem_filter.mpr ⟨List.mem_append_right _ (List.mem_append_right _ (List.mem_append_left _ (List.mem_of_getElem? (i := 37) rfl))), rfl⟩
theorem wm_2_38 : Cond.code y_T_close b_T_close 2 (some .boolean) ∈ wG := List.mem_filter.mpr ⟨List.mem_append_right _ (List.mem_append_right _ (List.mem_append_left _ (List.mem_of_getElem? (i := 38) rfl))), rfl⟩
theorem wm_2_39 : Cond.methodLink "LinearRows$Table" 64 y_T_storeOpposites ∈ wG := List.mem_filter.mpr ⟨List.mem_append_right _ (List.mem_append_right _ (List.mem_append_left _ (List.mem_of_getElem? (i := 39) rfl))), rfl⟩
theorem wm_2_40 : Cond.methodLink "LinearRows$Table" 68 y_T_chainThrough ∈ wG := List.mem_filter.mpr ⟨List.mem_append_right _ (List.mem_append_right _ (List.mem_append_left _ (List.mem_of_getElem? (i := 40) rfl))), rfl⟩
theorem wm_2_42 : Cond.instanceMethod y_T_chainThrough ∈ wG := List.mem_filter.mpr ⟨List.mem_append_right _ (List.mem_append_right _ (List.mem_append_left _ (List.mem_of_getElem? (i := 42) rfl))), rfl⟩
theorem wm_2_43 : Cond.code y_T_chainThrough b_T_chainThrough 10 none ∈ wG := List.mem_filter.mpr ⟨List.mem_append_right _ (List.mem_append_right _ (List.mem_append_left _ (List.mem_of_getElem? (i := 43) rfl))), rfl⟩
theorem wm_2_44 : Cond.methodLink "LinearRows$Table" 72 y_T_hasOppositesBelowZero ∈ wG := List.mem_filter.mpr ⟨List.mem_append_right _ (List.mem_append_right _ (List.mem_append_left _ (List.mem_of_getElem? (i := 44) rfl))), rfl⟩
theorem wm_2_46 : Cond.instanceMethod y_T_hasOppositesBelowZero ∈ wG := List.mem_filter.mpr ⟨List.mem_append_right _ (List.mem_append_right _ (List.mem_append_left _ (List.mem_of_getElem? (i := 46) rfl))), rfl⟩
theorem wm_2_47 : Cond.code y_T_hasOppositesBelowZero b_T_hasOppositesBelowZero 2 (some .boolean) ∈ wG := List.mem_filter.mpr ⟨List.mem_append_right _ (List.mem_append_right _ (List.mem_append_left _ (List.mem_of_getElem? (i := 47) rfl))), rfl⟩
theorem wm_2_48 : Cond.methodLink "LinearRows$Table" 76 y_T_cutToEven ∈ wG := List.mem_filter.mpr ⟨List.mem_append_right _ (List.mem_append_right _ (List.mem_append_left _ (List.mem_of_getElem? (i := 48) rfl))), rfl⟩
theorem wm_2_50 : Cond.instanceMethod y_T_cutToEven ∈ wG := List.mem_filter.mpr ⟨List.mem_append_right _ (List.mem_append_right _ (List.mem_append_left _ (List.mem_of_getElem? (i := 50) rfl))), rfl⟩
theorem wm_2_51 : Cond.code y_T_cutToEven b_T_cutToEven 2 none ∈ wG := List.mem_filter.mpr ⟨List.mem_append_right _ (List.mem_append_right _ (List.mem_append_left _ (List.mem_of_getElem? (i := 51) rfl))), rfl⟩
theorem wm_2_52 : Cond.constantLong "LinearRows$Table" 31 2 ∈ wG := List.mem_filter.mpr ⟨List.mem_append_right _ (List.mem_append_right _ (List.mem_append_left _ (List.mem_of_getElem? (i := 52) rfl))), rfl⟩
theorem wm_2_53 : Cond.methodLink "LinearRows$Table" 85 y_JM_floorDiv ∈ wG := List.mem_filter.mpr ⟨List.mem_append_right _ (List.mem_append_right _ (List.mem_append_left _ (List.mem_of_getElem? (i := 53) rfl))), rfl⟩
theorem wm_2_54 : Cond.methodLink "LinearRows$Table" 79 y_T_hasTwicesThatContradict ∈ wG := List.mem_filter.mpr ⟨List.mem_append_right _ (List.mem_append_right _ (List.mem_append_left _ (List.mem_of_getElem? (i := 54) rfl))), rfl⟩
theorem wm_2_56 : Cond.instanceMethod y_T_hasTwicesThatContradict ∈ wG := List.mem_filter.mpr ⟨List.mem_append_right _ (List.mem_append_right _ (List.mem_append_left _ (List.mem_of_getElem? (i := 56) rfl))), rfl⟩
theorem wm_2_57 : Cond.code y_T_hasTwicesThatContradict b_T_hasTwicesThatContradict 2 (some .boolean) ∈ wG := List.mem_filter.mpr ⟨List.mem_append_right _ (List.mem_append_right _ (List.mem_append_left _ (List.mem_of_getElem? (i := 57) rfl))), rfl⟩
theorem wm_2_59 : Cond.static y_X_plus ∈ wG := List.mem_filter.mpr ⟨List.mem_append_right _ (List.mem_append_right _ (List.mem_append_left _ (List.mem_of_getElem? (i := 59) rfl))), rfl⟩
theorem wm_2_60 : Cond.code y_X_plus b_X_plus 4 (some .long) ∈ wG := List.mem_filter.mpr ⟨List.mem_append_right _ (List.mem_append_right _ (List.mem_append_left _ (List.mem_of_getElem? (i := 60) rfl))), rfl⟩
theorem wm_2_61 : Cond.constantLong "LinearRows" 87 4611686018427387904 ∈ wG := List.mem_filter.mpr ⟨List.mem_append_right _ (List.mem_append_right _ (List.mem_append_left _ (List.mem_of_getElem? (i := 61) rfl))), rfl⟩
theorem wm_2_62 : Cond.methodLink "LinearRows$Table" 82 y_T_addHalves ∈ wG := List.mem_filter.mpr ⟨List.mem_append_right _ (List.mem_append_right _ (List.mem_append_left _ (List.mem_of_getElem? (i := 62) rfl))), rfl⟩
theorem wm_2_64 : Cond.instanceMethod y_T_addHalves ∈ wG := List.mem_filter.mpr ⟨List.mem_append_right _ (List.mem_append_right _ (List.mem_append_left _ (List.mem_of_getElem? (i := 64) rfl))), rfl⟩
theorem wm_2_65 : Cond.code y_T_addHalves b_T_addHalves 3 none ∈ wG := List.mem_filter.mpr ⟨List.mem_append_right _ (List.mem_append_right _ (List.mem_append_left _ (List.mem_of_getElem? (i := 65) rfl))), rfl⟩
theorem wm_2_66 : Cond.methodLink "LinearRows$Table" 37 y_T_half ∈ wG := List.mem_filter.mpr ⟨List.mem_append_right _ (List.mem_append_right _ (List.mem_append_left _ (List.mem_of_getElem? (i := 66) rfl))), rfl⟩
theorem wm_2_67 : Cond.instanceMethod y_T_half ∈ wG := List.mem_filter.mpr ⟨List.mem_append_right _ (List.mem_append_right _ (List.mem_append_left _ (List.mem_of_getElem? (i := 67) rfl))), rfl⟩
theorem wm_2_68 : Cond.selects "LinearRows$Table" y_T_half y_T_half ∈ wG := List.mem_filter.mpr ⟨List.mem_append_right _ (List.mem_append_right _ (List.mem_append_left _ (List.mem_of_getElem? (i := 68) rfl))), rfl⟩
theorem wm_2_69 : Cond.code y_T_half b_T_half 2 (some .long) ∈ wG := List.mem_filter.mpr ⟨List.mem_append_right _ (List.mem_append_right _ (List.mem_append_left _ (List.mem_of_getElem? (i := 69) rfl))), rfl⟩
theorem wm_2_70 : Cond.methodLink "LinearRows$Table" 91 y_T_lowerTo ∈ wG := List.mem_filter.mpr ⟨List.mem_append_right _ (List.mem_append_right _ (List.mem_append_left _ (List.mem_of_getElem? (i := 70) rfl))), rfl⟩
theorem wm_2_71 : Cond.methodLink "LinearRows" 79 y_X_takeMade ∈ wG := List.mem_filter.mpr ⟨List.mem_append_right _ (List.mem_append_right _ (List.mem_append_left _ (List.mem_of_getElem? (i := 71) rfl))), rfl⟩
theorem wm_2_73 : Cond.instanceMethod y_X_takeMade ∈ wG := List.mem_filter.mpr ⟨List.mem_append_right _ (List.mem_append_right _ (List.mem_append_left _ (List.mem_of_getElem? (i := 73) rfl))), rfl⟩
theorem wm_2_74 : Cond.code y_X_takeMade b_X_takeMade 2 (some .int) ∈ wG := List.mem_filter.mpr ⟨List.mem_append_right _ (List.mem_append_right _ (List.mem_append_left _ (List.mem_of_getElem? (i := 74) rfl))), rfl⟩
theorem wm_2_75 : Cond.methodLink "LinearRows" 208 y_T_isTooFar ∈ wG := List.mem_filter.mpr ⟨List.mem_append_right _ (List.mem_append_right _ (List.mem_append_left _ (List.mem_of_getElem? (i := 75) rfl))), rfl⟩
theorem wm_2_76 : Cond.instanceMethod y_T_isTooFar ∈ wG := List.mem_filter.mpr ⟨List.mem_append_right _ (List.mem_append_right _ (List.mem_append_left _ (List.mem_of_getElem? (i := 76) rfl))), rfl⟩
theorem wm_2_77 : Cond.selects "LinearRows$Table" y_T_isTooFar y_T_isTooFar ∈ wG := List.mem_filter.mpr ⟨List.mem_append_right _ (List.mem_append_right _ (List.mem_append_left _ (List.mem_of_getElem? (i := 77) rfl))), rfl⟩
theorem wm_2_78 : Cond.code y_T_isTooFar b_T_isTooFar 5 (some .boolean) ∈ wG := List.mem_filter.mpr ⟨List.mem_append_right _ (List.mem_append_right _ (List.mem_append_left _ (List.mem_of_getElem? (i := 78) rfl))), rfl⟩
theorem wm_2_79 : Cond.constantLong "LinearRows$Table" 60 1000000000000000 ∈ wG := List.mem_filter.mpr ⟨List.mem_append_right _ (List.mem_append_right _ (List.mem_append_left _ (List.mem_of_getElem? (i := 79) rfl))), rfl⟩
theorem wm_2_80 : Cond.constantLong "LinearRows$Table" 62 (-1000000000000000) ∈ wG := List.mem_filter.mpr ⟨List.mem_append_right _ (List.mem_append_right _ (List.mem_append_left _ (List.mem_of_getElem? (i := 80) rfl))), rfl⟩
theorem wm_2_81 : Cond.classLink "LinearRows" 211 "java/lang/ArithmeticException" ∈ wG := List.mem_filter.mpr ⟨List.mem_append_right _ (List.mem_append_right _ (List.mem_append_left _ (List.mem_of_getElem? (i := 81) rfl))), rfl⟩
theorem wm_2_82 : Cond.instantiable "java/lang/ArithmeticException" 6 ∈ wG := List.mem_filter.mpr ⟨List.mem_append_right _ (List.mem_append_right _ (List.mem_append_left _ (List.mem_of_getElem? (i := 82) rfl))), rfl⟩
theorem wm_2_84 : Cond.selects "java/lang/ArithmeticException" ⟨"java/lang/Throwable", "fillInStackTrace", "(I)Ljava/lang/Throwable;"⟩ ⟨"java/lang/Throwable", "fillInStackTrace", "(I)Ljava/lang/Throwable;"⟩ ∈ wG := List.mem_filter.mpr ⟨List.mem_append_right _ (List.mem_append_right _ (List.mem_append_left _ (List.mem_of_getElem? (i := 84) rfl))), rfl⟩
theorem wm_2_85 : Cond.lays "java/lang/ArithmeticException" "java/lang/Throwable" "cause" "Ljava/lang/Throwable;" ∈ wG := List.mem_filter.mpr ⟨List.mem_append_right _ (List.mem_append_right _ (List.mem_append_left _ (List.mem_of_getElem? (i := 85) rfl))), rfl⟩
theorem wm_2_86 : Cond.lays "java/lang/ArithmeticException" "java/lang/Throwable" "stackTrace" "[Ljava/lang/StackTraceElement;" ∈ wG := List.mem_filter.mpr ⟨List.mem_append_right _ (List.mem_append_right _ (List.mem_append_left _ (List.mem_of_getElem? (i := 86) rfl))), rfl⟩
theorem wm_2_87 : Cond.lays "java/lang/ArithmeticException" "java/lang/Throwable" "suppressedExceptions" "Ljava/util/List;" ∈ wG := List.mem_filter.mpr ⟨List.mem_append_right _ (List.mem_append_right _ (List.mem_append_left _ (List.mem_of_getElem? (i := 87) rfl))), rfl⟩
theorem wm_2_88 : Cond.lays "java/lang/ArithmeticException" "java/lang/Throwable" "detailMessage" "Ljava/lang/String;" ∈ wG := List.mem_filter.mpr ⟨List.mem_append_right _ (List.mem_append_right _ (List.mem_append_left _ (List.mem_of_getElem? (i := 88) rfl))), rfl⟩
theorem wm_2_89 : Cond.lays "java/lang/ArithmeticException" "java/lang/Throwable" "backtrace" "Ljava/lang/Object;" ∈ wG := List.mem_filter.mpr ⟨List.mem_append_right _ (List.mem_append_right _ (List.mem_append_left _ (List.mem_of_getElem? (i := 89) rfl))), rfl⟩
theorem wm_2_91 : Cond.methodLink "LinearRows" 215 ⟨"java/lang/ArithmeticException", "<init>", "(Ljava/lang/String;)V"⟩ ∈ wG := List.mem_filter.mpr ⟨List.mem_append_right _ (List.mem_append_right _ (List.mem_append_left _ (List.mem_of_getElem? (i := 91) rfl))), rfl⟩
theorem wm_2_92 : Cond.instanceMethod ⟨"java/lang/ArithmeticException", "<init>", "(Ljava/lang/String;)V"⟩ ∈ wG := List.mem_filter.mpr ⟨List.mem_append_right _ (List.mem_append_right _ (List.mem_append_left _ (List.mem_of_getElem? (i := 92) rfl))), rfl⟩
theorem wm_2_94 : Cond.methodLink "java/lang/ArithmeticException" 7 ⟨"java/lang/RuntimeException", "<init>", "(Ljava/lang/String;)V"⟩ ∈ wG := List.mem_filter.mpr ⟨List.mem_append_right _ (List.mem_append_right _ (List.mem_append_left _ (List.mem_of_getElem? (i := 94) rfl))), rfl⟩
theorem wm_2_95 : Cond.lays "java/lang/ArithmeticException" "java/lang/Throwable" "depth" "I" ∈ wG := List.mem_filter.mpr ⟨List.mem_append_right _ (List.mem_append_right _ (List.mem_append_left _ (List.mem_of_getElem? (i := 95) rfl))), rfl⟩
theorem wm_2_96 : Cond.superclass "java/lang/ArithmeticException" "java/lang/RuntimeException" ∈ wG := List.mem_filter.mpr ⟨List.mem_append_right _ (List.mem_append_right _ (List.mem_append_left _ (List.mem_of_getElem? (i := 96) rfl))), rfl⟩
theorem wm_2_97 : Cond.methodLink "LinearRowsLaw" 116 y_L_bound ∈ wG := List.mem_filter.mpr ⟨List.mem_append_right _ (List.mem_append_right _ (List.mem_append_left _ (List.mem_of_getElem? (i := 97) rfl))), rfl⟩
theorem wm_2_98 : Cond.static y_L_bound ∈ wG := List.mem_filter.mpr ⟨List.mem_append_right _ (List.mem_append_right _ (List.mem_append_left _ (List.mem_of_getElem? (i := 98) rfl))), rfl⟩
theorem wm_2_99 : Cond.codeWith y_L_bound b_L_bound 6 (some .int) h_L_bound ∈ wG := List.mem_filter.mpr ⟨List.mem_append_right _ (List.mem_append_right _ (List.mem_append_left _ (List.mem_of_getElem? (i := 99) rfl))), rfl⟩
theorem wm_2_100 : Cond.methodLink "LinearRowsLaw" 23 y_X_bound ∈ wG := List.mem_filter.mpr ⟨List.mem_append_right _ (List.mem_append_right _ (List.mem_append_left _ (List.mem_of_getElem? (i := 100) rfl))), rfl⟩
theorem wm_2_101 : Cond.instanceMethod y_X_bound ∈ wG := List.mem_filter.mpr ⟨List.mem_append_right _ (List.mem_append_right _ (List.mem_append_left _ (List.mem_of_getElem? (i := 101) rfl))), rfl⟩
theorem wm_2_102 : Cond.selects "LinearRows" y_X_bound y_X_bound ∈ wG := List.mem_filter.mpr ⟨List.mem_append_right _ (List.mem_append_right _ (List.mem_append_left _ (List.mem_of_getElem? (i := 102) rfl))), rfl⟩
theorem wm_2_103 : Cond.code y_X_bound b_X_bound 4 (some .long) ∈ wG := List.mem_filter.mpr ⟨List.mem_append_right _ (List.mem_append_right _ (List.mem_append_left _ (List.mem_of_getElem? (i := 103) rfl))), rfl⟩
theorem wm_2_104 : Cond.methodLink "LinearRows" 83 y_S_greatest ∈ wG := List.mem_filter.mpr ⟨List.mem_append_right _ (List.mem_append_right _ (List.mem_append_left _ (List.mem_of_getElem? (i := 104) rfl))), rfl⟩
theorem wm_2_105 : Cond.instanceMethod y_S_greatest ∈ wG := List.mem_filter.mpr ⟨List.mem_append_right _ (List.mem_append_right _ (List.mem_append_left _ (List.mem_of_getElem? (i := 105) rfl))), rfl⟩
theorem wm_2_106 : Cond.selects "LinearRows$Shape" y_S_greatest y_S_greatest ∈ wG := List.mem_filter.mpr ⟨List.mem_append_right _ (List.mem_append_right _ (List.mem_append_left _ (List.mem_of_getElem? (i := 106) rfl))), rfl⟩
theorem wm_2_107 : Cond.code y_S_greatest b_S_greatest 3 (some .long) ∈ wG := List.mem_filter.mpr ⟨List.mem_append_right _ (List.mem_append_right _ (List.mem_append_left _ (List.mem_of_getElem? (i := 107) rfl))), rfl⟩
theorem wm_2_108 : Cond.constantLong "LinearRows$Shape" 45 (-4611686018427387904) ∈ wG := List.mem_filter.mpr ⟨List.mem_append_right _ (List.mem_append_right _ (List.mem_append_left _ (List.mem_of_getElem? (i := 108) rfl))), rfl⟩
theorem wm_2_109 : Cond.methodLink "LinearRows$Shape" 47 y_T_ofTerms ∈ wG := List.mem_filter.mpr ⟨List.mem_append_right _ (List.mem_append_right _ (List.mem_append_left _ (List.mem_of_getElem? (i := 109) rfl))), rfl⟩
theorem wm_2_110 : Cond.instanceMethod y_T_ofTerms ∈ wG := List.mem_filter.mpr ⟨List.mem_append_right _ (List.mem_append_right _ (List.mem_append_left _ (List.mem_of_getElem? (i := 110) rfl))), rfl⟩
theorem wm_2_111 : Cond.selects "LinearRows$Table" y_T_ofTerms y_T_ofTerms ∈ wG := List.mem_filter.mpr ⟨List.mem_append_right _ (List.mem_append_right _ (List.mem_append_left _ (List.mem_of_getElem? (i := 111) rfl))), rfl⟩
theorem wm_2_112 : Cond.code y_T_ofTerms b_T_ofTerms 3 (some .long) ∈ wG := List.mem_filter.mpr ⟨List.mem_append_right _ (List.mem_append_right _ (List.mem_append_left _ (List.mem_of_getElem? (i := 112) rfl))), rfl⟩
theorem wm_2_114 : Cond.methodLink "LinearRowsLaw" 120 y_L_kept ∈ wG := List.mem_filter.mpr ⟨List.mem_append_right _ (List.mem_append_right _ (List.mem_append_left _ (List.mem_of_getElem? (i := 114) rfl))), rfl⟩
theorem wm_2_115 : Cond.static y_L_kept ∈ wG := List.mem_filter.mpr ⟨List.mem_append_right _ (List.mem_append_right _ (List.mem_append_left _ (List.mem_of_getElem? (i := 115) rfl))), rfl⟩
theorem wm_2_116 : Cond.codeWith y_L_kept b_L_kept 6 (some .int) h_L_kept ∈ wG := List.mem_filter.mpr ⟨List.mem_append_right _ (List.mem_append_right _ (List.mem_append_left _ (List.mem_of_getElem? (i := 116) rfl))), rfl⟩
theorem wm_2_117 : Cond.methodLink "LinearRowsLaw" 27 y_X_kept ∈ wG := List.mem_filter.mpr ⟨List.mem_append_right _ (List.mem_append_right _ (List.mem_append_left _ (List.mem_of_getElem? (i := 117) rfl))), rfl⟩
theorem wm_2_118 : Cond.instanceMethod y_X_kept ∈ wG := List.mem_filter.mpr ⟨List.mem_append_right _ (List.mem_append_right _ (List.mem_append_left _ (List.mem_of_getElem? (i := 118) rfl))), rfl⟩
theorem wm_2_119 : Cond.selects "LinearRows" y_X_kept y_X_kept ∈ wG := List.mem_filter.mpr ⟨List.mem_append_right _ (List.mem_append_right _ (List.mem_append_left _ (List.mem_of_getElem? (i := 119) rfl))), rfl⟩
theorem wm_2_120 : Cond.code y_X_kept b_X_kept 4 (some .long) ∈ wG := List.mem_filter.mpr ⟨List.mem_append_right _ (List.mem_append_right _ (List.mem_append_left _ (List.mem_of_getElem? (i := 120) rfl))), rfl⟩
theorem wm_2_121 : Cond.methodLink "LinearRows" 92 y_T_ofTerms ∈ wG := List.mem_filter.mpr ⟨List.mem_append_right _ (List.mem_append_right _ (List.mem_append_left _ (List.mem_of_getElem? (i := 121) rfl))), rfl⟩
theorem wm_2_122 : Cond.methodLink "LinearRowsLaw" 123 y_L_meet ∈ wG := List.mem_filter.mpr ⟨List.mem_append_right _ (List.mem_append_right _ (List.mem_append_left _ (List.mem_of_getElem? (i := 122) rfl))), rfl⟩
theorem wm_2_123 : Cond.static y_L_meet ∈ wG := List.mem_filter.mpr ⟨List.mem_append_right _ (List.mem_append_right _ (List.mem_append_left _ (List.mem_of_getElem? (i := 123) rfl))), rfl⟩
theorem wm_2_124 : Cond.codeWith y_L_meet b_L_meet 6 (some .int) h_L_meet ∈ wG := List.mem_filter.mpr ⟨List.mem_append_right _ (List.mem_append_right _ (List.mem_append_left _ (List.mem_of_getElem? (i := 124) rfl))), rfl⟩
theorem wm_2_125 : Cond.methodLink "LinearRowsLaw" 30 y_X_meet ∈ wG := List.mem_filter.mpr ⟨List.mem_append_right _ (List.mem_append_right _ (List.mem_append_left _ (List.mem_of_getElem? (i := 125) rfl))), rfl⟩
theorem wm_2_126 : Cond.instanceMethod y_X_meet ∈ wG := List.mem_filter.mpr ⟨List.mem_append_right _ (List.mem_append_right _ (List.mem_append_left _ (List.mem_of_getElem? (i := 126) rfl))), rfl⟩
theorem wm_2_127 : Cond.selects "LinearRows" y_X_meet y_X_meet ∈ wG := List.mem_filter.mpr ⟨List.mem_append_right _ (List.mem_append_right _ (List.mem_append_left _ (List.mem_of_getElem? (i := 127) rfl))), rfl⟩
theorem wm_2_128 : Cond.code y_X_meet b_X_meet 4 (some .int) ∈ wG := List.mem_filter.mpr ⟨List.mem_append_right _ (List.mem_append_right _ (List.mem_append_left _ (List.mem_of_getElem? (i := 128) rfl))), rfl⟩
theorem wm_2_129 : Cond.methodLink "LinearRows" 95 y_X_checkShapes ∈ wG := List.mem_filter.mpr ⟨List.mem_append_right _ (List.mem_append_right _ (List.mem_append_left _ (List.mem_of_getElem? (i := 129) rfl))), rfl⟩
theorem wm_2_130 : Cond.static y_X_checkShapes ∈ wG := List.mem_filter.mpr ⟨List.mem_append_right _ (List.mem_append_right _ (List.mem_append_left _ (List.mem_of_getElem? (i := 130) rfl))), rfl⟩
theorem wm_2_131 : Cond.code y_X_checkShapes b_X_checkShapes 3 none ∈ wG := List.mem_filter.mpr ⟨List.mem_append_right _ (List.mem_append_right _ (List.mem_append_left _ (List.mem_of_getElem? (i := 131) rfl))), rfl⟩
theorem wm_2_132 : Cond.methodLink "LinearRows" 99 y_S_becomeMeeting ∈ wG := List.mem_filter.mpr ⟨List.mem_append_right _ (List.mem_append_right _ (List.mem_append_left _ (List.mem_of_getElem? (i := 132) rfl))), rfl⟩
theorem wm_2_133 : Cond.instanceMethod y_S_becomeMeeting ∈ wG := List.mem_filter.mpr ⟨List.mem_append_right _ (List.mem_append_right _ (List.mem_append_left _ (List.mem_of_getElem? (i := 133) rfl))), rfl⟩
theorem wm_2_134 : Cond.selects "LinearRows$Shape" y_S_becomeMeeting y_S_becomeMeeting ∈ wG := List.mem_filter.mpr ⟨List.mem_append_right _ (List.mem_append_right _ (List.mem_append_left _ (List.mem_of_getElem? (i := 134) rfl))), rfl⟩
theorem wm_2_135 : Cond.code y_S_becomeMeeting b_S_becomeMeeting 5 none ∈ wG := List.mem_filter.mpr ⟨List.mem_append_right _ (List.mem_append_right _ (List.mem_append_left _ (List.mem_of_getElem? (i := 135) rfl))), rfl⟩
theorem wm_2_136 : Cond.methodLink "LinearRows$Shape" 73 y_T_at ∈ wG := List.mem_filter.mpr ⟨List.mem_append_right _ (List.mem_append_right _ (List.mem_append_left _ (List.mem_of_getElem? (i := 136) rfl))), rfl⟩
theorem wm_2_137 : Cond.methodLink "LinearRows$Shape" 76 y_JM_min_JJJ ∈ wG := List.mem_filter.mpr ⟨List.mem_append_right _ (List.mem_append_right _ (List.mem_append_left _ (List.mem_of_getElem? (i := 137) rfl))), rfl⟩
theorem wm_2_138 : Cond.methodLink "LinearRows$Shape" 79 y_T_store ∈ wG := List.mem_filter.mpr ⟨List.mem_append_right _ (List.mem_append_right _ (List.mem_append_left _ (List.mem_of_getElem? (i := 138) rfl))), rfl⟩
theorem wm_2_139 : Cond.methodLink "LinearRows$Shape" 82 y_S_keepBounds ∈ wG := List.mem_filter.mpr ⟨List.mem_append_right _ (List.mem_append_right _ (List.mem_append_left _ (List.mem_of_getElem? (i := 139) rfl))), rfl⟩
theorem wm_2_141 : Cond.instanceMethod y_S_keepBounds ∈ wG := List.mem_filter.mpr ⟨List.mem_append_right _ (List.mem_append_right _ (List.mem_append_left _ (List.mem_of_getElem? (i := 141) rfl))), rfl⟩
theorem wm_2_142 : Cond.code y_S_keepBounds b_S_keepBounds 1 none ∈ wG := List.mem_filter.mpr ⟨List.mem_append_right _ (List.mem_append_right _ (List.mem_append_left _ (List.mem_of_getElem? (i := 142) rfl))), rfl⟩
theorem wm_2_143 : Cond.constantLong "LinearRows$Shape" 92 4611686018427387904 ∈ wG := List.mem_filter.mpr ⟨List.mem_append_right _ (List.mem_append_right _ (List.mem_append_left _ (List.mem_of_getElem? (i := 143) rfl))), rfl⟩
theorem wm_2_144 : Cond.methodLink "LinearRowsLaw" 126 y_L_join ∈ wG := List.mem_filter.mpr ⟨List.mem_append_right _ (List.mem_append_right _ (List.mem_append_left _ (List.mem_of_getElem? (i := 144) rfl))), rfl⟩
theorem wm_2_145 : Cond.static y_L_join ∈ wG := List.mem_filter.mpr ⟨List.mem_append_right _ (List.mem_append_right _ (List.mem_append_left _ (List.mem_of_getElem? (i := 145) rfl))), rfl⟩
theorem wm_2_146 : Cond.codeWith y_L_join b_L_join 6 (some .int) h_L_join ∈ wG := List.mem_filter.mpr ⟨List.mem_append_right _ (List.mem_append_right _ (List.mem_append_left _ (List.mem_of_getElem? (i := 146) rfl))), rfl⟩
theorem wm_2_147 : Cond.methodLink "LinearRowsLaw" 34 y_X_join ∈ wG := List.mem_filter.mpr ⟨List.mem_append_right _ (List.mem_append_right _ (List.mem_append_left _ (List.mem_of_getElem? (i := 147) rfl))), rfl⟩
theorem wm_2_148 : Cond.instanceMethod y_X_join ∈ wG := List.mem_filter.mpr ⟨List.mem_append_right _ (List.mem_append_right _ (List.mem_append_left _ (List.mem_of_getElem? (i := 148) rfl))), rfl⟩
theorem wm_2_149 : Cond.selects "LinearRows" y_X_join y_X_join ∈ wG := List.mem_filter.mpr ⟨List.mem_append_right _ (List.mem_append_right _ (List.mem_append_left _ (List.mem_of_getElem? (i := 149) rfl))), rfl⟩
theorem wm_2_150 : Cond.code y_X_join b_X_join 4 (some .int) ∈ wG := List.mem_filter.mpr ⟨List.mem_append_right _ (List.mem_append_right _ (List.mem_append_left _ (List.mem_of_getElem? (i := 150) rfl))), rfl⟩
theorem wm_2_151 : Cond.methodLink "LinearRows" 103 y_S_becomeJoin ∈ wG := List.mem_filter.mpr ⟨List.mem_append_right _ (List.mem_append_right _ (List.mem_append_left _ (List.mem_of_getElem? (i := 151) rfl))), rfl⟩
theorem wm_2_152 : Cond.instanceMethod y_S_becomeJoin ∈ wG := List.mem_filter.mpr ⟨List.mem_append_right _ (List.mem_append_right _ (List.mem_append_left _ (List.mem_of_getElem? (i := 152) rfl))), rfl⟩
theorem wm_2_153 : Cond.selects "LinearRows$Shape" y_S_becomeJoin y_S_becomeJoin ∈ wG := List.mem_filter.mpr ⟨List.mem_append_right _ (List.mem_append_right _ (List.mem_append_left _ (List.mem_of_getElem? (i := 153) rfl))), rfl⟩
theorem wm_2_154 : Cond.code y_S_becomeJoin b_S_becomeJoin 5 none ∈ wG := List.mem_filter.mpr ⟨List.mem_append_right _ (List.mem_append_right _ (List.mem_append_left _ (List.mem_of_getElem? (i := 154) rfl))), rfl⟩
theorem wm_2_155 : Cond.methodLink "LinearRows$Shape" 85 y_S_becomeLike ∈ wG := List.mem_filter.mpr ⟨List.mem_append_right _ (List.mem_append_right _ (List.mem_append_left _ (List.mem_of_getElem? (i := 155) rfl))), rfl⟩
theorem wm_2_156 : Cond.methodLink "LinearRows$Shape" 89 y_JM_max_JJJ ∈ wG := List.mem_filter.mpr ⟨List.mem_append_right _ (List.mem_append_right _ (List.mem_append_left _ (List.mem_of_getElem? (i := 156) rfl))), rfl⟩
theorem wm_2_157 : Cond.static y_JM_max_JJJ ∈ wG := List.mem_filter.mpr ⟨List.mem_append_right _ (List.mem_append_right _ (List.mem_append_left _ (List.mem_of_getElem? (i := 157) rfl))), rfl⟩
theorem wm_2_158 : Cond.code y_JM_max_JJJ b_JM_max_JJJ 4 (some .long) ∈ wG := List.mem_filter.mpr ⟨List.mem_append_right _ (List.mem_append_right _ (List.mem_append_left _ (List.mem_of_getElem? (i := 158) rfl))), rfl⟩
theorem wm_2_159 : Cond.methodLink "LinearRowsLaw" 129 y_L_widen ∈ wG := List.mem_filter.mpr ⟨List.mem_append_right _ (List.mem_append_right _ (List.mem_append_left _ (List.mem_of_getElem? (i := 159) rfl))), rfl⟩
theorem wm_2_160 : Cond.static y_L_widen ∈ wG := List.mem_filter.mpr ⟨List.mem_append_right _ (List.mem_append_right _ (List.mem_append_left _ (List.mem_of_getElem? (i := 160) rfl))), rfl⟩
theorem wm_2_161 : Cond.codeWith y_L_widen b_L_widen 6 (some .int) h_L_widen ∈ wG := List.mem_filter.mpr ⟨List.mem_append_right _ (List.mem_append_right _ (List.mem_append_left _ (List.mem_of_getElem? (i := 161) rfl))), rfl⟩
theorem wm_2_162 : Cond.methodLink "LinearRowsLaw" 37 y_X_widen ∈ wG := List.mem_filter.mpr ⟨List.mem_append_right _ (List.mem_append_right _ (List.mem_append_left _ (List.mem_of_getElem? (i := 162) rfl))), rfl⟩
theorem wm_2_163 : Cond.instanceMethod y_X_widen ∈ wG := List.mem_filter.mpr ⟨List.mem_append_right _ (List.mem_append_right _ (List.mem_append_left _ (List.mem_of_getElem? (i := 163) rfl))), rfl⟩
theorem wm_2_164 : Cond.selects "LinearRows" y_X_widen y_X_widen ∈ wG := List.mem_filter.mpr ⟨List.mem_append_right _ (List.mem_append_right _ (List.mem_append_left _ (List.mem_of_getElem? (i := 164) rfl))), rfl⟩
theorem wm_2_165 : Cond.code y_X_widen b_X_widen 4 (some .int) ∈ wG := List.mem_filter.mpr ⟨List.mem_append_right _ (List.mem_append_right _ (List.mem_append_left _ (List.mem_of_getElem? (i := 165) rfl))), rfl⟩
theorem wm_2_166 : Cond.methodLink "LinearRows" 106 y_S_becomeWidened ∈ wG := List.mem_filter.mpr ⟨List.mem_append_right _ (List.mem_append_right _ (List.mem_append_left _ (List.mem_of_getElem? (i := 166) rfl))), rfl⟩
theorem wm_2_167 : Cond.instanceMethod y_S_becomeWidened ∈ wG := List.mem_filter.mpr ⟨List.mem_append_right _ (List.mem_append_right _ (List.mem_append_left _ (List.mem_of_getElem? (i := 167) rfl))), rfl⟩
theorem wm_2_168 : Cond.selects "LinearRows$Shape" y_S_becomeWidened y_S_becomeWidened ∈ wG := List.mem_filter.mpr ⟨List.mem_append_right _ (List.mem_append_right _ (List.mem_append_left _ (List.mem_of_getElem? (i := 168) rfl))), rfl⟩
theorem wm_2_169 : Cond.code y_S_becomeWidened b_S_becomeWidened 7 none ∈ wG := List.mem_filter.mpr ⟨List.mem_append_right _ (List.mem_append_right _ (List.mem_append_left _ (List.mem_of_getElem? (i := 169) rfl))), rfl⟩
theorem wm_2_170 : Cond.methodLink "LinearRowsLaw" 132 y_L_narrow ∈ wG := List.mem_filter.mpr ⟨List.mem_append_right _ (List.mem_append_right _ (List.mem_append_left _ (List.mem_of_getElem? (i := 170) rfl))), rfl⟩
theorem wm_2_171 : Cond.static y_L_narrow ∈ wG := List.mem_filter.mpr ⟨List.mem_append_right _ (List.mem_append_right _ (List.mem_append_left _ (List.mem_of_getElem? (i := 171) rfl))), rfl⟩
theorem wm_2_172 : Cond.codeWith y_L_narrow b_L_narrow 6 (some .int) h_L_narrow ∈ wG := List.mem_filter.mpr ⟨List.mem_append_right _ (List.mem_append_right _ (List.mem_append_left _ (List.mem_of_getElem? (i := 172) rfl))), rfl⟩
theorem wm_2_173 : Cond.methodLink "LinearRowsLaw" 40 y_X_narrow ∈ wG := List.mem_filter.mpr ⟨List.mem_append_right _ (List.mem_append_right _ (List.mem_append_left _ (List.mem_of_getElem? (i := 173) rfl))), rfl⟩
theorem wm_2_174 : Cond.instanceMethod y_X_narrow ∈ wG := List.mem_filter.mpr ⟨List.mem_append_right _ (List.mem_append_right _ (List.mem_append_left _ (List.mem_of_getElem? (i := 174) rfl))), rfl⟩
theorem wm_2_175 : Cond.selects "LinearRows" y_X_narrow y_X_narrow ∈ wG := List.mem_filter.mpr ⟨List.mem_append_right _ (List.mem_append_right _ (List.mem_append_left _ (List.mem_of_getElem? (i := 175) rfl))), rfl⟩
theorem wm_2_176 : Cond.code y_X_narrow b_X_narrow 4 (some .int) ∈ wG := List.mem_filter.mpr ⟨List.mem_append_right _ (List.mem_append_right _ (List.mem_append_left _ (List.mem_of_getElem? (i := 176) rfl))), rfl⟩
theorem wm_2_177 : Cond.methodLink "LinearRows" 109 y_S_becomeNarrowed ∈ wG := List.mem_filter.mpr ⟨List.mem_append_right _ (List.mem_append_right _ (List.mem_append_left _ (List.mem_of_getElem? (i := 177) rfl))), rfl⟩
theorem wm_2_178 : Cond.instanceMethod y_S_becomeNarrowed ∈ wG := List.mem_filter.mpr ⟨List.mem_append_right _ (List.mem_append_right _ (List.mem_append_left _ (List.mem_of_getElem? (i := 178) rfl))), rfl⟩
theorem wm_2_179 : Cond.selects "LinearRows$Shape" y_S_becomeNarrowed y_S_becomeNarrowed ∈ wG := List.mem_filter.mpr ⟨List.mem_append_right _ (List.mem_append_right _ (List.mem_append_left _ (List.mem_of_getElem? (i := 179) rfl))), rfl⟩
theorem wm_2_180 : Cond.code y_S_becomeNarrowed b_S_becomeNarrowed 6 none ∈ wG := List.mem_filter.mpr ⟨List.mem_append_right _ (List.mem_append_right _ (List.mem_append_left _ (List.mem_of_getElem? (i := 180) rfl))), rfl⟩
theorem wm_2_181 : Cond.methodLink "LinearRowsLaw" 135 y_L_copy ∈ wG := List.mem_filter.mpr ⟨List.mem_append_right _ (List.mem_append_right _ (List.mem_append_left _ (List.mem_of_getElem? (i := 181) rfl))), rfl⟩
theorem wm_2_182 : Cond.static y_L_copy ∈ wG := List.mem_filter.mpr ⟨List.mem_append_right _ (List.mem_append_right _ (List.mem_append_left _ (List.mem_of_getElem? (i := 182) rfl))), rfl⟩
theorem wm_2_183 : Cond.codeWith y_L_copy b_L_copy 4 (some .int) h_L_copy ∈ wG := List.mem_filter.mpr ⟨List.mem_append_right _ (List.mem_append_right _ (List.mem_append_left _ (List.mem_of_getElem? (i := 183) rfl))), rfl⟩
theorem wm_2_184 : Cond.methodLink "LinearRowsLaw" 43 y_X_copy ∈ wG := List.mem_filter.mpr ⟨List.mem_append_right _ (List.mem_append_right _ (List.mem_append_left _ (List.mem_of_getElem? (i := 184) rfl))), rfl⟩
theorem wm_2_185 : Cond.instanceMethod y_X_copy ∈ wG := List.mem_filter.mpr ⟨List.mem_append_right _ (List.mem_append_right _ (List.mem_append_left _ (List.mem_of_getElem? (i := 185) rfl))), rfl⟩
theorem wm_2_186 : Cond.selects "LinearRows" y_X_copy y_X_copy ∈ wG := List.mem_filter.mpr ⟨List.mem_append_right _ (List.mem_append_right _ (List.mem_append_left _ (List.mem_of_getElem? (i := 186) rfl))), rfl⟩
theorem wm_2_187 : Cond.code y_X_copy b_X_copy 3 none ∈ wG := List.mem_filter.mpr ⟨List.mem_append_right _ (List.mem_append_right _ (List.mem_append_left _ (List.mem_of_getElem? (i := 187) rfl))), rfl⟩
theorem wm_2_188 : Cond.methodLink "LinearRowsLaw" 139 y_L_set ∈ wG := List.mem_filter.mpr ⟨List.mem_append_right _ (List.mem_append_right _ (List.mem_append_left _ (List.mem_of_getElem? (i := 188) rfl))), rfl⟩
theorem wm_2_189 : Cond.static y_L_set ∈ wG := List.mem_filter.mpr ⟨List.mem_append_right _ (List.mem_append_right _ (List.mem_append_left _ (List.mem_of_getElem? (i := 189) rfl))), rfl⟩
theorem wm_2_190 : Cond.codeWith y_L_set b_L_set 8 (some .int) h_L_set ∈ wG := List.mem_filter.mpr ⟨List.mem_append_right _ (List.mem_append_right _ (List.mem_append_left _ (List.mem_of_getElem? (i := 190) rfl))), rfl⟩
theorem wm_2_191 : Cond.methodLink "LinearRowsLaw" 47 y_X_set ∈ wG := List.mem_filter.mpr ⟨List.mem_append_right _ (List.mem_append_right _ (List.mem_append_left _ (List.mem_of_getElem? (i := 191) rfl))), rfl⟩
theorem wm_2_192 : Cond.instanceMethod y_X_set ∈ wG := List.mem_filter.mpr ⟨List.mem_append_right _ (List.mem_append_right _ (List.mem_append_left _ (List.mem_of_getElem? (i := 192) rfl))), rfl⟩
theorem wm_2_193 : Cond.selects "LinearRows" y_X_set y_X_set ∈ wG := List.mem_filter.mpr ⟨List.mem_append_right _ (List.mem_append_right _ (List.mem_append_left _ (List.mem_of_getElem? (i := 193) rfl))), rfl⟩
theorem wm_2_194 : Cond.code y_X_set b_X_set 6 (some .int) ∈ wG := List.mem_filter.mpr ⟨List.mem_append_right _ (List.mem_append_right _ (List.mem_append_left _ (List.mem_of_getElem? (i := 194) rfl))), rfl⟩
theorem wm_2_195 : Cond.methodLink "LinearRows" 112 y_X_checkName ∈ wG := List.mem_filter.mpr ⟨List.mem_append_right _ (List.mem_append_right _ (List.mem_append_left _ (List.mem_of_getElem? (i := 195) rfl))), rfl⟩
theorem wm_2_197 : Cond.instanceMethod y_X_checkName ∈ wG := List.mem_filter.mpr ⟨List.mem_append_right _ (List.mem_append_right _ (List.mem_append_left _ (List.mem_of_getElem? (i := 197) rfl))), rfl⟩
theorem wm_2_198 : Cond.code y_X_checkName b_X_checkName 2 none ∈ wG := List.mem_filter.mpr ⟨List.mem_append_right _ (List.mem_append_right _ (List.mem_append_left _ (List.mem_of_getElem? (i := 198) rfl))), rfl⟩
theorem wm_2_200 : Cond.methodLink "LinearRows" 115 y_S_becomeAssigned ∈ wG := List.mem_filter.mpr ⟨List.mem_append_right _ (List.mem_append_right _ (List.mem_append_left _ (List.mem_of_getElem? (i := 200) rfl))), rfl⟩
theorem wm_2_201 : Cond.instanceMethod y_S_becomeAssigned ∈ wG := List.mem_filter.mpr ⟨List.mem_append_right _ (List.mem_append_right _ (List.mem_append_left _ (List.mem_of_getElem? (i := 201) rfl))), rfl⟩
theorem wm_2_202 : Cond.selects "LinearRows$Shape" y_S_becomeAssigned y_S_becomeAssigned ∈ wG := List.mem_filter.mpr ⟨List.mem_append_right _ (List.mem_append_right _ (List.mem_append_left _ (List.mem_of_getElem? (i := 202) rfl))), rfl⟩
theorem wm_2_203 : Cond.code y_S_becomeAssigned b_S_becomeAssigned 10 none ∈ wG := List.mem_filter.mpr ⟨List.mem_append_right _ (List.mem_append_right _ (List.mem_append_left _ (List.mem_of_getElem? (i := 203) rfl))), rfl⟩
theorem wm_2_204 : Cond.methodLink "LinearRows$Shape" 94 y_S_sourceOf ∈ wG := List.mem_filter.mpr ⟨List.mem_append_right _ (List.mem_append_right _ (List.mem_append_left _ (List.mem_of_getElem? (i := 204) rfl))), rfl⟩
theorem wm_2_205 : Cond.static y_S_sourceOf ∈ wG := List.mem_filter.mpr ⟨List.mem_append_right _ (List.mem_append_right _ (List.mem_append_left _ (List.mem_of_getElem? (i := 205) rfl))), rfl⟩
theorem wm_2_206 : Cond.code y_S_sourceOf b_S_sourceOf 4 (some .int) ∈ wG := List.mem_filter.mpr ⟨List.mem_append_right _ (List.mem_append_right _ (List.mem_append_left _ (List.mem_of_getElem? (i := 206) rfl))), rfl⟩
theorem wm_2_208 : Cond.static y_X_termAt ∈ wG := List.mem_filter.mpr ⟨List.mem_append_right _ (List.mem_append_right _ (List.mem_append_left _ (List.mem_of_getElem? (i := 208) rfl))), rfl⟩
theorem wm_2_209 : Cond.code y_X_termAt b_X_termAt 2 (some .int) ∈ wG := List.mem_filter.mpr ⟨List.mem_append_right _ (List.mem_append_right _ (List.mem_append_left _ (List.mem_of_getElem? (i := 209) rfl))), rfl⟩
theorem wm_2_210 : Cond.methodLink "LinearRows$Shape" 98 y_S_greatest ∈ wG := List.mem_filter.mpr ⟨List.mem_append_right _ (List.mem_append_right _ (List.mem_append_left _ (List.mem_of_getElem? (i := 210) rfl))), rfl⟩
theorem wm_2_211 : Cond.methodLink "LinearRows$Shape" 101 y_S_addedTo ∈ wG := List.mem_filter.mpr ⟨List.mem_append_right _ (List.mem_append_right _ (List.mem_append_left _ (List.mem_of_getElem? (i := 211) rfl))), rfl⟩
theorem wm_2_212 : Cond.static y_S_addedTo ∈ wG := List.mem_filter.mpr ⟨List.mem_append_right _ (List.mem_append_right _ (List.mem_append_left _ (List.mem_of_getElem? (i := 212) rfl))), rfl⟩
theorem wm_2_213 : Cond.code y_S_addedTo b_S_addedTo 5 (some .long) ∈ wG := List.mem_filter.mpr ⟨List.mem_append_right _ (List.mem_append_right _ (List.mem_append_left _ (List.mem_of_getElem? (i := 213) rfl))), rfl⟩
theorem wm_2_215 : Cond.methodLink "LinearRowsLaw" 142 y_L_forget ∈ wG := List.mem_filter.mpr ⟨List.mem_append_right _ (List.mem_append_right _ (List.mem_append_left _ (List.mem_of_getElem? (i := 215) rfl))), rfl⟩
theorem wm_2_216 : Cond.static y_L_forget ∈ wG := List.mem_filter.mpr ⟨List.mem_append_right _ (List.mem_append_right _ (List.mem_append_left _ (List.mem_of_getElem? (i := 216) rfl))), rfl⟩
theorem wm_2_217 : Cond.codeWith y_L_forget b_L_forget 5 (some .int) h_L_forget ∈ wG := List.mem_filter.mpr ⟨List.mem_append_right _ (List.mem_append_right _ (List.mem_append_left _ (List.mem_of_getElem? (i := 217) rfl))), rfl⟩
theorem wm_2_218 : Cond.methodLink "LinearRowsLaw" 50 y_X_forget ∈ wG := List.mem_filter.mpr ⟨List.mem_append_right _ (List.mem_append_right _ (List.mem_append_left _ (List.mem_of_getElem? (i := 218) rfl))), rfl⟩
theorem wm_2_219 : Cond.instanceMethod y_X_forget ∈ wG := List.mem_filter.mpr ⟨List.mem_append_right _ (List.mem_append_right _ (List.mem_append_left _ (List.mem_of_getElem? (i := 219) rfl))), rfl⟩
theorem wm_2_220 : Cond.selects "LinearRows" y_X_forget y_X_forget ∈ wG := List.mem_filter.mpr ⟨List.mem_append_right _ (List.mem_append_right _ (List.mem_append_left _ (List.mem_of_getElem? (i := 220) rfl))), rfl⟩
theorem wm_2_221 : Cond.code y_X_forget b_X_forget 3 (some .int) ∈ wG := List.mem_filter.mpr ⟨List.mem_append_right _ (List.mem_append_right _ (List.mem_append_left _ (List.mem_of_getElem? (i := 221) rfl))), rfl⟩
theorem wm_2_222 : Cond.methodLink "LinearRows" 119 y_S_becomeFree ∈ wG := List.mem_filter.mpr ⟨List.mem_append_right _ (List.mem_append_right _ (List.mem_append_left _ (List.mem_of_getElem? (i := 222) rfl))), rfl⟩
theorem wm_2_223 : Cond.instanceMethod y_S_becomeFree ∈ wG := List.mem_filter.mpr ⟨List.mem_append_right _ (List.mem_append_right _ (List.mem_append_left _ (List.mem_of_getElem? (i := 223) rfl))), rfl⟩
theorem wm_2_224 : Cond.selects "LinearRows$Shape" y_S_becomeFree y_S_becomeFree ∈ wG := List.mem_filter.mpr ⟨List.mem_append_right _ (List.mem_append_right _ (List.mem_append_left _ (List.mem_of_getElem? (i := 224) rfl))), rfl⟩
theorem wm_2_225 : Cond.code y_S_becomeFree b_S_becomeFree 4 none ∈ wG := List.mem_filter.mpr ⟨List.mem_append_right _ (List.mem_append_right _ (List.mem_append_left _ (List.mem_of_getElem? (i := 225) rfl))), rfl⟩
theorem wm_2_226 : Cond.methodLink "LinearRowsLaw" 146 y_L_within ∈ wG := List.mem_filter.mpr ⟨List.mem_append_right _ (List.mem_append_right _ (List.mem_append_left _ (List.mem_of_getElem? (i := 226) rfl))), rfl⟩
theorem wm_2_227 : Cond.static y_L_within ∈ wG := List.mem_filter.mpr ⟨List.mem_append_right _ (List.mem_append_right _ (List.mem_append_left _ (List.mem_of_getElem? (i := 227) rfl))), rfl⟩
theorem wm_2_228 : Cond.codeWith y_L_within b_L_within 5 (some .int) h_L_within ∈ wG := List.mem_filter.mpr ⟨List.mem_append_right _ (List.mem_append_right _ (List.mem_append_left _ (List.mem_of_getElem? (i := 228) rfl))), rfl⟩
theorem wm_2_229 : Cond.methodLink "LinearRowsLaw" 54 y_X_within ∈ wG := List.mem_filter.mpr ⟨List.mem_append_right _ (List.mem_append_right _ (List.mem_append_left _ (List.mem_of_getElem? (i := 229) rfl))), rfl⟩
theorem wm_2_230 : Cond.instanceMethod y_X_within ∈ wG := List.mem_filter.mpr ⟨List.mem_append_right _ (List.mem_append_right _ (List.mem_append_left _ (List.mem_of_getElem? (i := 230) rfl))), rfl⟩
theorem wm_2_231 : Cond.selects "LinearRows" y_X_within y_X_within ∈ wG := List.mem_filter.mpr ⟨List.mem_append_right _ (List.mem_append_right _ (List.mem_append_left _ (List.mem_of_getElem? (i := 231) rfl))), rfl⟩
theorem wm_2_232 : Cond.code y_X_within b_X_within 3 (some .boolean) ∈ wG := List.mem_filter.mpr ⟨List.mem_append_right _ (List.mem_append_right _ (List.mem_append_left _ (List.mem_of_getElem? (i := 232) rfl))), rfl⟩
theorem wm_2_233 : Cond.methodLink "LinearRows" 130 y_T_isNowhereAbove ∈ wG := List.mem_filter.mpr ⟨List.mem_append_right _ (List.mem_append_right _ (List.mem_append_left _ (List.mem_of_getElem? (i := 233) rfl))), rfl⟩
theorem wm_2_234 : Cond.instanceMethod y_T_isNowhereAbove ∈ wG := List.mem_filter.mpr ⟨List.mem_append_right _ (List.mem_append_right _ (List.mem_append_left _ (List.mem_of_getElem? (i := 234) rfl))), rfl⟩
theorem wm_2_235 : Cond.selects "LinearRows$Table" y_T_isNowhereAbove y_T_isNowhereAbove ∈ wG := List.mem_filter.mpr ⟨List.mem_append_right _ (List.mem_append_right _ (List.mem_append_left _ (List.mem_of_getElem? (i := 235) rfl))), rfl⟩
theorem wm_2_236 : Cond.code y_T_isNowhereAbove b_T_isNowhereAbove 4 (some .boolean) ∈ wG := List.mem_filter.mpr ⟨List.mem_append_right _ (List.mem_append_right _ (List.mem_append_left _ (List.mem_of_getElem? (i := 236) rfl))), rfl⟩
theorem wm_2_237 : Cond.methodLink "LinearRowsLaw" 149 y_L_put ∈ wG := List.mem_filter.mpr ⟨List.mem_append_right _ (List.mem_append_right _ (List.mem_append_left _ (List.mem_of_getElem? (i := 237) rfl))), rfl⟩
theorem wm_2_238 : Cond.static y_L_put ∈ wG := List.mem_filter.mpr ⟨List.mem_append_right _ (List.mem_append_right _ (List.mem_append_left _ (List.mem_of_getElem? (i := 238) rfl))), rfl⟩
theorem wm_2_239 : Cond.codeWith y_L_put b_L_put 6 (some .int) h_L_put ∈ wG := List.mem_filter.mpr ⟨List.mem_append_right _ (List.mem_append_right _ (List.mem_append_left _ (List.mem_of_getElem? (i := 239) rfl))), rfl⟩
theorem wm_3_0 : Cond.methodLink "LinearRowsLaw" 58 y_X_put ∈ wG := List.mem_filter.mpr ⟨List.mem_append_right _ (List.mem_append_right _ (List.mem_append_right _ (List.mem_append_left _ (List.mem_of_getElem? (i := 0) rfl)))), rfl⟩
theorem wm_3_1 : Cond.instanceMethod y_X_put ∈ wG := List.mem_filter.mpr ⟨List.mem_append_right _ (List.mem_append_right _ (List.mem_append_right _ (List.mem_append_left _ (List.mem_of_getElem? (i := 1) rfl)))), rfl⟩
theorem wm_3_2 : Cond.selects "LinearRows" y_X_put y_X_put ∈ wG := List.mem_filter.mpr ⟨List.mem_append_right _ (List.mem_append_right _ (List.mem_append_right _ (List.mem_append_left _ (List.mem_of_getElem? (i := 2) rfl)))), rfl⟩
theorem wm_3_3 : Cond.code y_X_put b_X_put 6 (some .long) ∈ wG := List.mem_filter.mpr ⟨List.mem_append_right _ (List.mem_append_right _ (List.mem_append_right _ (List.mem_append_left _ (List.mem_of_getElem? (i := 3) rfl)))), rfl⟩
theorem wm_3_4 : Cond.methodLink "LinearRowsLaw" 153 y_L_point ∈ wG := List.mem_filter.mpr ⟨List.mem_append_right _ (List.mem_append_right _ (List.mem_append_right _ (List.mem_append_left _ (List.mem_of_getElem? (i := 4) rfl)))), rfl⟩
theorem wm_3_5 : Cond.static y_L_point ∈ wG := List.mem_filter.mpr ⟨List.mem_append_right _ (List.mem_append_right _ (List.mem_append_right _ (List.mem_append_left _ (List.mem_of_getElem? (i := 5) rfl)))), rfl⟩
theorem wm_3_6 : Cond.codeWith y_L_point b_L_point 4 (some .int) h_L_point ∈ wG := List.mem_filter.mpr ⟨List.mem_append_right _ (List.mem_append_right _ (List.mem_append_right _ (List.mem_append_left _ (List.mem_of_getElem? (i := 6) rfl)))), rfl⟩
theorem wm_3_7 : Cond.methodLink "LinearRowsLaw" 62 y_X_point ∈ wG := List.mem_filter.mpr ⟨List.mem_append_right _ (List.mem_append_right _ (List.mem_append_right _ (List.mem_append_left _ (List.mem_of_getElem? (i := 7) rfl)))), rfl⟩
theorem wm_3_8 : Cond.instanceMethod y_X_point ∈ wG := List.mem_filter.mpr ⟨List.mem_append_right _ (List.mem_append_right _ (List.mem_append_right _ (List.mem_append_left _ (List.mem_of_getElem? (i := 8) rfl)))), rfl⟩
theorem wm_3_9 : Cond.selects "LinearRows" y_X_point y_X_point ∈ wG := List.mem_filter.mpr ⟨List.mem_append_right _ (List.mem_append_right _ (List.mem_append_right _ (List.mem_append_left _ (List.mem_of_getElem? (i := 9) rfl)))), rfl⟩
theorem wm_3_10 : Cond.code y_X_point b_X_point 2 (some .long) ∈ wG := List.mem_filter.mpr ⟨List.mem_append_right _ (List.mem_append_right _ (List.mem_append_right _ (List.mem_append_left _ (List.mem_of_getElem? (i := 10) rfl)))), rfl⟩
theorem wm_3_11 : Cond.methodLink "LinearRowsLaw" 157 y_L_has ∈ wG := List.mem_filter.mpr ⟨List.mem_append_right _ (List.mem_append_right _ (List.mem_append_right _ (List.mem_append_left _ (List.mem_of_getElem? (i := 11) rfl)))), rfl⟩
theorem wm_3_12 : Cond.static y_L_has ∈ wG := List.mem_filter.mpr ⟨List.mem_append_right _ (List.mem_append_right _ (List.mem_append_right _ (List.mem_append_left _ (List.mem_of_getElem? (i := 12) rfl)))), rfl⟩
theorem wm_3_13 : Cond.codeWith y_L_has b_L_has 4 (some .int) h_L_has ∈ wG := List.mem_filter.mpr ⟨List.mem_append_right _ (List.mem_append_right _ (List.mem_append_right _ (List.mem_append_left _ (List.mem_of_getElem? (i := 13) rfl)))), rfl⟩
theorem wm_3_14 : Cond.methodLink "LinearRowsLaw" 66 y_X_has ∈ wG := List.mem_filter.mpr ⟨List.mem_append_right _ (List.mem_append_right _ (List.mem_append_right _ (List.mem_append_left _ (List.mem_of_getElem? (i := 14) rfl)))), rfl⟩
theorem wm_3_15 : Cond.instanceMethod y_X_has ∈ wG := List.mem_filter.mpr ⟨List.mem_append_right _ (List.mem_append_right _ (List.mem_append_right _ (List.mem_append_left _ (List.mem_of_getElem? (i := 15) rfl)))), rfl⟩
theorem wm_3_16 : Cond.selects "LinearRows" y_X_has y_X_has ∈ wG := List.mem_filter.mpr ⟨List.mem_append_right _ (List.mem_append_right _ (List.mem_append_right _ (List.mem_append_left _ (List.mem_of_getElem? (i := 16) rfl)))), rfl⟩
theorem wm_3_17 : Cond.code y_X_has b_X_has 4 (some .boolean) ∈ wG := List.mem_filter.mpr ⟨List.mem_append_right _ (List.mem_append_right _ (List.mem_append_right _ (List.mem_append_left _ (List.mem_of_getElem? (i := 17) rfl)))), rfl⟩
theorem wm_3_18 : Cond.methodLink "LinearRows" 134 y_X_numberAt ∈ wG := List.mem_filter.mpr ⟨List.mem_append_right _ (List.mem_append_right _ (List.mem_append_right _ (List.mem_append_left _ (List.mem_of_getElem? (i := 18) rfl)))), rfl⟩
theorem wm_3_20 : Cond.instanceMethod y_X_numberAt ∈ wG := List.mem_filter.mpr ⟨List.mem_append_right _ (List.mem_append_right _ (List.mem_append_right _ (List.mem_append_left _ (List.mem_of_getElem? (i := 20) rfl)))), rfl⟩
theorem wm_3_21 : Cond.code y_X_numberAt b_X_numberAt 4 (some .long) ∈ wG := List.mem_filter.mpr ⟨List.mem_append_right _ (List.mem_append_right _ (List.mem_append_right _ (List.mem_append_left _ (List.mem_of_getElem? (i := 21) rfl)))), rfl⟩
theorem wm_3_22 : Cond.methodLink "LinearRows" 138 y_T_at ∈ wG := List.mem_filter.mpr ⟨List.mem_append_right _ (List.mem_append_right _ (List.mem_append_right _ (List.mem_append_left _ (List.mem_of_getElem? (i := 22) rfl)))), rfl⟩
theorem wm_3_23 : Cond.methodLink "LinearRowsLaw" 160 y_L_sample ∈ wG := List.mem_filter.mpr ⟨List.mem_append_right _ (List.mem_append_right _ (List.mem_append_right _ (List.mem_append_left _ (List.mem_of_getElem? (i := 23) rfl)))), rfl⟩
theorem wm_3_24 : Cond.static y_L_sample ∈ wG := List.mem_filter.mpr ⟨List.mem_append_right _ (List.mem_append_right _ (List.mem_append_right _ (List.mem_append_left _ (List.mem_of_getElem? (i := 24) rfl)))), rfl⟩
theorem wm_3_25 : Cond.codeWith y_L_sample b_L_sample 4 (some .int) h_L_sample ∈ wG := List.mem_filter.mpr ⟨List.mem_append_right _ (List.mem_append_right _ (List.mem_append_right _ (List.mem_append_left _ (List.mem_of_getElem? (i := 25) rfl)))), rfl⟩
theorem wm_3_26 : Cond.methodLink "LinearRowsLaw" 70 y_X_sample ∈ wG := List.mem_filter.mpr ⟨List.mem_append_right _ (List.mem_append_right _ (List.mem_append_right _ (List.mem_append_left _ (List.mem_of_getElem? (i := 26) rfl)))), rfl⟩
theorem wm_3_27 : Cond.instanceMethod y_X_sample ∈ wG := List.mem_filter.mpr ⟨List.mem_append_right _ (List.mem_append_right _ (List.mem_append_right _ (List.mem_append_left _ (List.mem_of_getElem? (i := 27) rfl)))), rfl⟩
theorem wm_3_28 : Cond.selects "LinearRows" y_X_sample y_X_sample ∈ wG := List.mem_filter.mpr ⟨List.mem_append_right _ (List.mem_append_right _ (List.mem_append_right _ (List.mem_append_left _ (List.mem_of_getElem? (i := 28) rfl)))), rfl⟩
theorem wm_3_29 : Cond.code y_X_sample b_X_sample 3 (some .boolean) ∈ wG := List.mem_filter.mpr ⟨List.mem_append_right _ (List.mem_append_right _ (List.mem_append_right _ (List.mem_append_left _ (List.mem_of_getElem? (i := 29) rfl)))), rfl⟩
theorem wm_3_30 : Cond.methodLink "LinearRows" 141 y_X_sampleNumber ∈ wG := List.mem_filter.mpr ⟨List.mem_append_right _ (List.mem_append_right _ (List.mem_append_right _ (List.mem_append_left _ (List.mem_of_getElem? (i := 30) rfl)))), rfl⟩
theorem wm_3_32 : Cond.instanceMethod y_X_sampleNumber ∈ wG := List.mem_filter.mpr ⟨List.mem_append_right _ (List.mem_append_right _ (List.mem_append_right _ (List.mem_append_left _ (List.mem_of_getElem? (i := 32) rfl)))), rfl⟩
theorem wm_3_33 : Cond.code y_X_sampleNumber b_X_sampleNumber 7 (some .long) ∈ wG := List.mem_filter.mpr ⟨List.mem_append_right _ (List.mem_append_right _ (List.mem_append_right _ (List.mem_append_left _ (List.mem_of_getElem? (i := 33) rfl)))), rfl⟩
theorem wm_3_34 : Cond.methodLink "LinearRows" 177 y_X_placeOf ∈ wG := List.mem_filter.mpr ⟨List.mem_append_right _ (List.mem_append_right _ (List.mem_append_right _ (List.mem_append_left _ (List.mem_of_getElem? (i := 34) rfl)))), rfl⟩
theorem wm_3_35 : Cond.methodLink "LinearRows" 216 y_X_greatestBeside ∈ wG := List.mem_filter.mpr ⟨List.mem_append_right _ (List.mem_append_right _ (List.mem_append_right _ (List.mem_append_left _ (List.mem_of_getElem? (i := 35) rfl)))), rfl⟩
theorem wm_3_37 : Cond.instanceMethod y_X_greatestBeside ∈ wG := List.mem_filter.mpr ⟨List.mem_append_right _ (List.mem_append_right _ (List.mem_append_right _ (List.mem_append_left _ (List.mem_of_getElem? (i := 37) rfl)))), rfl⟩
theorem wm_3_38 : Cond.code y_X_greatestBeside b_X_greatestBeside 7 (some .long) ∈ wG := List.mem_filter.mpr ⟨List.mem_append_right _ (List.mem_append_right _ (List.mem_append_right _ (List.mem_append_left _ (List.mem_of_getElem? (i := 38) rfl)))), rfl⟩
theorem wm_3_39 : Cond.methodLink "LinearRows" 219 y_T_half ∈ wG := List.mem_filter.mpr ⟨List.mem_append_right _ (List.mem_append_right _ (List.mem_append_right _ (List.mem_append_left _ (List.mem_of_getElem? (i := 39) rfl)))), rfl⟩
theorem wm_3_40 : Cond.methodLink "LinearRows" 222 y_X_plus ∈ wG := List.mem_filter.mpr ⟨List.mem_append_right _ (List.mem_append_right _ (List.mem_append_right _ (List.mem_append_left _ (List.mem_of_getElem? (i := 40) rfl)))), rfl⟩
theorem wm_3_41 : Cond.methodLink "LinearRows" 226 y_JM_min_JJJ ∈ wG := List.mem_filter.mpr ⟨List.mem_append_right _ (List.mem_append_right _ (List.mem_append_right _ (List.mem_append_left _ (List.mem_of_getElem? (i := 41) rfl)))), rfl⟩
theorem wm_3_42 : Cond.methodLink "LinearRowsLaw" 163 y_L_needed ∈ wG := List.mem_filter.mpr ⟨List.mem_append_right _ (List.mem_append_right _ (List.mem_append_right _ (List.mem_append_left _ (List.mem_of_getElem? (i := 42) rfl)))), rfl⟩
theorem wm_3_43 : Cond.static y_L_needed ∈ wG := List.mem_filter.mpr ⟨List.mem_append_right _ (List.mem_append_right _ (List.mem_append_right _ (List.mem_append_left _ (List.mem_of_getElem? (i := 43) rfl)))), rfl⟩
theorem wm_3_44 : Cond.codeWith y_L_needed b_L_needed 4 (some .int) h_L_needed ∈ wG := List.mem_filter.mpr ⟨List.mem_append_right _ (List.mem_append_right _ (List.mem_append_right _ (List.mem_append_left _ (List.mem_of_getElem? (i := 44) rfl)))), rfl⟩
theorem wm_3_45 : Cond.methodLink "LinearRowsLaw" 73 y_X_needed ∈ wG := List.mem_filter.mpr ⟨List.mem_append_right _ (List.mem_append_right _ (List.mem_append_right _ (List.mem_append_left _ (List.mem_of_getElem? (i := 45) rfl)))), rfl⟩
theorem wm_3_46 : Cond.instanceMethod y_X_needed ∈ wG := List.mem_filter.mpr ⟨List.mem_append_right _ (List.mem_append_right _ (List.mem_append_right _ (List.mem_append_left _ (List.mem_of_getElem? (i := 46) rfl)))), rfl⟩
theorem wm_3_47 : Cond.selects "LinearRows" y_X_needed y_X_needed ∈ wG := List.mem_filter.mpr ⟨List.mem_append_right _ (List.mem_append_right _ (List.mem_append_right _ (List.mem_append_left _ (List.mem_of_getElem? (i := 47) rfl)))), rfl⟩
theorem wm_3_48 : Cond.code y_X_needed b_X_needed 2 (some .int) ∈ wG := List.mem_filter.mpr ⟨List.mem_append_right _ (List.mem_append_right _ (List.mem_append_right _ (List.mem_append_left _ (List.mem_of_getElem? (i := 48) rfl)))), rfl⟩
theorem wm_3_49 : Cond.constantLong "LinearRows" 145 (-1) ∈ wG := List.mem_filter.mpr ⟨List.mem_append_right _ (List.mem_append_right _ (List.mem_append_right _ (List.mem_append_left _ (List.mem_of_getElem? (i := 49) rfl)))), rfl⟩
theorem wm_3_50 : Cond.methodLink "LinearRows" 147 y_X_tellRow ∈ wG := List.mem_filter.mpr ⟨List.mem_append_right _ (List.mem_append_right _ (List.mem_append_right _ (List.mem_append_left _ (List.mem_of_getElem? (i := 50) rfl)))), rfl⟩
theorem wm_3_52 : Cond.instanceMethod y_X_tellRow ∈ wG := List.mem_filter.mpr ⟨List.mem_append_right _ (List.mem_append_right _ (List.mem_append_right _ (List.mem_append_left _ (List.mem_of_getElem? (i := 52) rfl)))), rfl⟩
theorem wm_3_53 : Cond.code y_X_tellRow b_X_tellRow 6 none ∈ wG := List.mem_filter.mpr ⟨List.mem_append_right _ (List.mem_append_right _ (List.mem_append_right _ (List.mem_append_left _ (List.mem_of_getElem? (i := 53) rfl)))), rfl⟩
theorem wm_3_54 : Cond.methodLink "LinearRows" 150 y_T_takeFrom ∈ wG := List.mem_filter.mpr ⟨List.mem_append_right _ (List.mem_append_right _ (List.mem_append_right _ (List.mem_append_left _ (List.mem_of_getElem? (i := 54) rfl)))), rfl⟩
theorem wm_3_55 : Cond.methodLink "LinearRows" 154 y_X_leaveOutPairs ∈ wG := List.mem_filter.mpr ⟨List.mem_append_right _ (List.mem_append_right _ (List.mem_append_right _ (List.mem_append_left _ (List.mem_of_getElem? (i := 55) rfl)))), rfl⟩
theorem wm_3_57 : Cond.instanceMethod y_X_leaveOutPairs ∈ wG := List.mem_filter.mpr ⟨List.mem_append_right _ (List.mem_append_right _ (List.mem_append_right _ (List.mem_append_left _ (List.mem_of_getElem? (i := 57) rfl)))), rfl⟩
theorem wm_3_58 : Cond.code y_X_leaveOutPairs b_X_leaveOutPairs 3 none ∈ wG := List.mem_filter.mpr ⟨List.mem_append_right _ (List.mem_append_right _ (List.mem_append_right _ (List.mem_append_left _ (List.mem_of_getElem? (i := 58) rfl)))), rfl⟩
theorem wm_3_59 : Cond.methodLink "LinearRows" 228 y_X_placeOfNextName ∈ wG := List.mem_filter.mpr ⟨List.mem_append_right _ (List.mem_append_right _ (List.mem_append_right _ (List.mem_append_left _ (List.mem_of_getElem? (i := 59) rfl)))), rfl⟩
theorem wm_3_60 : Cond.static y_X_placeOfNextName ∈ wG := List.mem_filter.mpr ⟨List.mem_append_right _ (List.mem_append_right _ (List.mem_append_right _ (List.mem_append_left _ (List.mem_of_getElem? (i := 60) rfl)))), rfl⟩
theorem wm_3_61 : Cond.code y_X_placeOfNextName b_X_placeOfNextName 1 (some .int) ∈ wG := List.mem_filter.mpr ⟨List.mem_append_right _ (List.mem_append_right _ (List.mem_append_right _ (List.mem_append_left _ (List.mem_of_getElem? (i := 61) rfl)))), rfl⟩
theorem wm_3_62 : Cond.methodLink "LinearRows" 231 y_X_leaveOutUnlessNeeded ∈ wG := List.mem_filter.mpr ⟨List.mem_append_right _ (List.mem_append_right _ (List.mem_append_right _ (List.mem_append_left _ (List.mem_of_getElem? (i := 62) rfl)))), rfl⟩
theorem wm_3_64 : Cond.instanceMethod y_X_leaveOutUnlessNeeded ∈ wG := List.mem_filter.mpr ⟨List.mem_append_right _ (List.mem_append_right _ (List.mem_append_right _ (List.mem_append_left _ (List.mem_of_getElem? (i := 64) rfl)))), rfl⟩
theorem wm_3_65 : Cond.code y_X_leaveOutUnlessNeeded b_X_leaveOutUnlessNeeded 5 none ∈ wG := List.mem_filter.mpr ⟨List.mem_append_right _ (List.mem_append_right _ (List.mem_append_right _ (List.mem_append_left _ (List.mem_of_getElem? (i := 65) rfl)))), rfl⟩
theorem wm_3_66 : Cond.methodLink "LinearRows" 235 y_T_store ∈ wG := List.mem_filter.mpr ⟨List.mem_append_right _ (List.mem_append_right _ (List.mem_append_right _ (List.mem_append_left _ (List.mem_of_getElem? (i := 66) rfl)))), rfl⟩
theorem wm_3_67 : Cond.methodLink "LinearRows" 183 y_T_close ∈ wG := List.mem_filter.mpr ⟨List.mem_append_right _ (List.mem_append_right _ (List.mem_append_right _ (List.mem_append_left _ (List.mem_of_getElem? (i := 67) rfl)))), rfl⟩
theorem wm_3_68 : Cond.methodLink "LinearRows" 157 y_X_leaveOutSingles ∈ wG := List.mem_filter.mpr ⟨List.mem_append_right _ (List.mem_append_right _ (List.mem_append_right _ (List.mem_append_left _ (List.mem_of_getElem? (i := 68) rfl)))), rfl⟩
theorem wm_3_70 : Cond.instanceMethod y_X_leaveOutSingles ∈ wG := List.mem_filter.mpr ⟨List.mem_append_right _ (List.mem_append_right _ (List.mem_append_right _ (List.mem_append_left _ (List.mem_of_getElem? (i := 70) rfl)))), rfl⟩
theorem wm_3_71 : Cond.code y_X_leaveOutSingles b_X_leaveOutSingles 2 none ∈ wG := List.mem_filter.mpr ⟨List.mem_append_right _ (List.mem_append_right _ (List.mem_append_right _ (List.mem_append_left _ (List.mem_of_getElem? (i := 71) rfl)))), rfl⟩
theorem wm_3_72 : Cond.methodLink "LinearRows" 160 y_X_tellLeftRows ∈ wG := List.mem_filter.mpr ⟨List.mem_append_right _ (List.mem_append_right _ (List.mem_append_right _ (List.mem_append_left _ (List.mem_of_getElem? (i := 72) rfl)))), rfl⟩
theorem wm_3_74 : Cond.instanceMethod y_X_tellLeftRows ∈ wG := List.mem_filter.mpr ⟨List.mem_append_right _ (List.mem_append_right _ (List.mem_append_right _ (List.mem_append_left _ (List.mem_of_getElem? (i := 74) rfl)))), rfl⟩
theorem wm_3_75 : Cond.code y_X_tellLeftRows b_X_tellLeftRows 3 none ∈ wG := List.mem_filter.mpr ⟨List.mem_append_right _ (List.mem_append_right _ (List.mem_append_right _ (List.mem_append_left _ (List.mem_of_getElem? (i := 75) rfl)))), rfl⟩
theorem wm_3_76 : Cond.methodLink "LinearRows" 238 y_X_termAt ∈ wG := List.mem_filter.mpr ⟨List.mem_append_right _ (List.mem_append_right _ (List.mem_append_right _ (List.mem_append_left _ (List.mem_of_getElem? (i := 76) rfl)))), rfl⟩
theorem wm_3_77 : Cond.methodLink "LinearRowsLaw" 166 y_L_needs ∈ wG := List.mem_filter.mpr ⟨List.mem_append_right _ (List.mem_append_right _ (List.mem_append_right _ (List.mem_append_left _ (List.mem_of_getElem? (i := 77) rfl)))), rfl⟩
theorem wm_3_78 : Cond.static y_L_needs ∈ wG := List.mem_filter.mpr ⟨List.mem_append_right _ (List.mem_append_right _ (List.mem_append_right _ (List.mem_append_left _ (List.mem_of_getElem? (i := 78) rfl)))), rfl⟩
theorem wm_3_79 : Cond.codeWith y_L_needs b_L_needs 5 (some .int) h_L_needs ∈ wG := List.mem_filter.mpr ⟨List.mem_append_right _ (List.mem_append_right _ (List.mem_append_right _ (List.mem_append_left _ (List.mem_of_getElem? (i := 79) rfl)))), rfl⟩
theorem wm_3_80 : Cond.methodLink "LinearRowsLaw" 77 y_X_needs ∈ wG := List.mem_filter.mpr ⟨List.mem_append_right _ (List.mem_append_right _ (List.mem_append_right _ (List.mem_append_left _ (List.mem_of_getElem? (i := 80) rfl)))), rfl⟩
theorem wm_3_81 : Cond.instanceMethod y_X_needs ∈ wG := List.mem_filter.mpr ⟨List.mem_append_right _ (List.mem_append_right _ (List.mem_append_right _ (List.mem_append_left _ (List.mem_of_getElem? (i := 81) rfl)))), rfl⟩
theorem wm_3_82 : Cond.selects "LinearRows" y_X_needs y_X_needs ∈ wG := List.mem_filter.mpr ⟨List.mem_append_right _ (List.mem_append_right _ (List.mem_append_right _ (List.mem_append_left _ (List.mem_of_getElem? (i := 82) rfl)))), rfl⟩
theorem wm_3_83 : Cond.code y_X_needs b_X_needs 3 (some .long) ∈ wG := List.mem_filter.mpr ⟨List.mem_append_right _ (List.mem_append_right _ (List.mem_append_right _ (List.mem_append_left _ (List.mem_of_getElem? (i := 83) rfl)))), rfl⟩
theorem wm_3_85 : Cond.methodLink "LinearRowsLaw" 169 y_L_fits ∈ wG := List.mem_filter.mpr ⟨List.mem_append_right _ (List.mem_append_right _ (List.mem_append_right _ (List.mem_append_left _ (List.mem_of_getElem? (i := 85) rfl)))), rfl⟩
theorem wm_3_86 : Cond.static y_L_fits ∈ wG := List.mem_filter.mpr ⟨List.mem_append_right _ (List.mem_append_right _ (List.mem_append_right _ (List.mem_append_left _ (List.mem_of_getElem? (i := 86) rfl)))), rfl⟩
theorem wm_3_87 : Cond.codeWith y_L_fits b_L_fits 6 (some .int) h_L_fits ∈ wG := List.mem_filter.mpr ⟨List.mem_append_right _ (List.mem_append_right _ (List.mem_append_right _ (List.mem_append_left _ (List.mem_of_getElem? (i := 87) rfl)))), rfl⟩
theorem wm_3_88 : Cond.methodLink "LinearRowsLaw" 81 y_X_fits ∈ wG := List.mem_filter.mpr ⟨List.mem_append_right _ (List.mem_append_right _ (List.mem_append_right _ (List.mem_append_left _ (List.mem_of_getElem? (i := 88) rfl)))), rfl⟩
theorem wm_3_89 : Cond.instanceMethod y_X_fits ∈ wG := List.mem_filter.mpr ⟨List.mem_append_right _ (List.mem_append_right _ (List.mem_append_right _ (List.mem_append_left _ (List.mem_of_getElem? (i := 89) rfl)))), rfl⟩
theorem wm_3_90 : Cond.selects "LinearRows" y_X_fits y_X_fits ∈ wG := List.mem_filter.mpr ⟨List.mem_append_right _ (List.mem_append_right _ (List.mem_append_right _ (List.mem_append_left _ (List.mem_of_getElem? (i := 90) rfl)))), rfl⟩
theorem wm_3_91 : Cond.code y_X_fits b_X_fits 6 (some .boolean) ∈ wG := List.mem_filter.mpr ⟨List.mem_append_right _ (List.mem_append_right _ (List.mem_append_right _ (List.mem_append_left _ (List.mem_of_getElem? (i := 91) rfl)))), rfl⟩
theorem wm_3_93 : Cond.methodLink "LinearRowsLaw" 172 y_L_array ∈ wG := List.mem_filter.mpr ⟨List.mem_append_right _ (List.mem_append_right _ (List.mem_append_right _ (List.mem_append_left _ (List.mem_of_getElem? (i := 93) rfl)))), rfl⟩
theorem wm_3_94 : Cond.static y_L_array ∈ wG := List.mem_filter.mpr ⟨List.mem_append_right _ (List.mem_append_right _ (List.mem_append_right _ (List.mem_append_left _ (List.mem_of_getElem? (i := 94) rfl)))), rfl⟩
theorem wm_3_95 : Cond.codeWith y_L_array b_L_array 6 (some .int) h_L_array ∈ wG := List.mem_filter.mpr ⟨List.mem_append_right _ (List.mem_append_right _ (List.mem_append_right _ (List.mem_append_left _ (List.mem_of_getElem? (i := 95) rfl)))), rfl⟩
theorem wm_3_96 : Cond.methodLink "LinearRowsLaw" 85 y_X_array ∈ wG := List.mem_filter.mpr ⟨List.mem_append_right _ (List.mem_append_right _ (List.mem_append_right _ (List.mem_append_left _ (List.mem_of_getElem? (i := 96) rfl)))), rfl⟩
theorem wm_3_97 : Cond.instanceMethod y_X_array ∈ wG := List.mem_filter.mpr ⟨List.mem_append_right _ (List.mem_append_right _ (List.mem_append_right _ (List.mem_append_left _ (List.mem_of_getElem? (i := 97) rfl)))), rfl⟩
theorem wm_3_98 : Cond.selects "LinearRows" y_X_array y_X_array ∈ wG := List.mem_filter.mpr ⟨List.mem_append_right _ (List.mem_append_right _ (List.mem_append_right _ (List.mem_append_left _ (List.mem_of_getElem? (i := 98) rfl)))), rfl⟩
theorem wm_3_99 : Cond.code y_X_array b_X_array 5 (some .int) ∈ wG := List.mem_filter.mpr ⟨List.mem_append_right _ (List.mem_append_right _ (List.mem_append_right _ (List.mem_append_left _ (List.mem_of_getElem? (i := 99) rfl)))), rfl⟩
theorem wm_3_101 : Cond.methodLink "LinearRows" 180 y_T_lowerTo ∈ wG := List.mem_filter.mpr ⟨List.mem_append_right _ (List.mem_append_right _ (List.mem_append_right _ (List.mem_append_left _ (List.mem_of_getElem? (i := 101) rfl)))), rfl⟩
theorem wm_3_102 : Cond.methodLink "LinearRowsLaw" 175 y_L_told ∈ wG := List.mem_filter.mpr ⟨List.mem_append_right _ (List.mem_append_right _ (List.mem_append_right _ (List.mem_append_left _ (List.mem_of_getElem? (i := 102) rfl)))), rfl⟩
theorem wm_3_103 : Cond.static y_L_told ∈ wG := List.mem_filter.mpr ⟨List.mem_append_right _ (List.mem_append_right _ (List.mem_append_right _ (List.mem_append_left _ (List.mem_of_getElem? (i := 103) rfl)))), rfl⟩
theorem wm_3_104 : Cond.codeWith y_L_told b_L_told 4 (some .int) h_L_told ∈ wG := List.mem_filter.mpr ⟨List.mem_append_right _ (List.mem_append_right _ (List.mem_append_right _ (List.mem_append_left _ (List.mem_of_getElem? (i := 104) rfl)))), rfl⟩
theorem wm_3_105 : Cond.methodLink "LinearRowsLaw" 88 y_X_told ∈ wG := List.mem_filter.mpr ⟨List.mem_append_right _ (List.mem_append_right _ (List.mem_append_right _ (List.mem_append_left _ (List.mem_of_getElem? (i := 105) rfl)))), rfl⟩
theorem wm_3_106 : Cond.instanceMethod y_X_told ∈ wG := List.mem_filter.mpr ⟨List.mem_append_right _ (List.mem_append_right _ (List.mem_append_right _ (List.mem_append_left _ (List.mem_of_getElem? (i := 106) rfl)))), rfl⟩
theorem wm_3_107 : Cond.selects "LinearRows" y_X_told y_X_told ∈ wG := List.mem_filter.mpr ⟨List.mem_append_right _ (List.mem_append_right _ (List.mem_append_right _ (List.mem_append_left _ (List.mem_of_getElem? (i := 107) rfl)))), rfl⟩
theorem wm_3_108 : Cond.code y_X_told b_X_told 2 (some .int) ∈ wG := List.mem_filter.mpr ⟨List.mem_append_right _ (List.mem_append_right _ (List.mem_append_right _ (List.mem_append_left _ (List.mem_of_getElem? (i := 108) rfl)))), rfl⟩
theorem wm_3_110 : Cond.methodLink "LinearRows" 189 y_X_countEmpty ∈ wG := List.mem_filter.mpr ⟨List.mem_append_right _ (List.mem_append_right _ (List.mem_append_right _ (List.mem_append_left _ (List.mem_of_getElem? (i := 110) rfl)))), rfl⟩
theorem wm_3_112 : Cond.instanceMethod y_X_countEmpty ∈ wG := List.mem_filter.mpr ⟨List.mem_append_right _ (List.mem_append_right _ (List.mem_append_right _ (List.mem_append_left _ (List.mem_of_getElem? (i := 112) rfl)))), rfl⟩
theorem wm_3_113 : Cond.code y_X_countEmpty b_X_countEmpty 3 (some .int) ∈ wG := List.mem_filter.mpr ⟨List.mem_append_right _ (List.mem_append_right _ (List.mem_append_right _ (List.mem_append_left _ (List.mem_of_getElem? (i := 113) rfl)))), rfl⟩
theorem wm_3_114 : Cond.methodLink "LinearRows" 193 y_T_countRows ∈ wG := List.mem_filter.mpr ⟨List.mem_append_right _ (List.mem_append_right _ (List.mem_append_right _ (List.mem_append_left _ (List.mem_of_getElem? (i := 114) rfl)))), rfl⟩
theorem wm_3_115 : Cond.instanceMethod y_T_countRows ∈ wG := List.mem_filter.mpr ⟨List.mem_append_right _ (List.mem_append_right _ (List.mem_append_right _ (List.mem_append_left _ (List.mem_of_getElem? (i := 115) rfl)))), rfl⟩
theorem wm_3_116 : Cond.selects "LinearRows$Table" y_T_countRows y_T_countRows ∈ wG := List.mem_filter.mpr ⟨List.mem_append_right _ (List.mem_append_right _ (List.mem_append_right _ (List.mem_append_left _ (List.mem_of_getElem? (i := 116) rfl)))), rfl⟩
theorem wm_3_117 : Cond.code y_T_countRows b_T_countRows 4 (some .int) ∈ wG := List.mem_filter.mpr ⟨List.mem_append_right _ (List.mem_append_right _ (List.mem_append_right _ (List.mem_append_left _ (List.mem_of_getElem? (i := 117) rfl)))), rfl⟩
theorem wm_3_118 : Cond.classLink "LinearRowsLaw" 99 "LinearRowsModel" ∈ wG := List.mem_filter.mpr ⟨List.mem_append_right _ (List.mem_append_right _ (List.mem_append_right _ (List.mem_append_left _ (List.mem_of_getElem? (i := 118) rfl)))), rfl⟩
theorem wm_3_119 : Cond.instantiable "LinearRowsModel" 13 ∈ wG := List.mem_filter.mpr ⟨List.mem_append_right _ (List.mem_append_right _ (List.mem_append_right _ (List.mem_append_left _ (List.mem_of_getElem? (i := 119) rfl)))), rfl⟩
theorem wm_3_120 : Cond.methodLink "LinearRowsLaw" 101 y_M_init ∈ wG := List.mem_filter.mpr ⟨List.mem_append_right _ (List.mem_append_right _ (List.mem_append_right _ (List.mem_append_left _ (List.mem_of_getElem? (i := 120) rfl)))), rfl⟩
theorem wm_3_121 : Cond.instanceMethod y_M_init ∈ wG := List.mem_filter.mpr ⟨List.mem_append_right _ (List.mem_append_right _ (List.mem_append_right _ (List.mem_append_left _ (List.mem_of_getElem? (i := 121) rfl)))), rfl⟩
theorem wm_3_122 : Cond.code y_M_init b_M_init 3 none ∈ wG := List.mem_filter.mpr ⟨List.mem_append_right _ (List.mem_append_right _ (List.mem_append_right _ (List.mem_append_left _ (List.mem_of_getElem? (i := 122) rfl)))), rfl⟩
theorem wm_3_123 : Cond.methodLink "LinearRowsModel" 1 ⟨"java/lang/Object", "<init>", "()V"⟩ ∈ wG := List.mem_filter.mpr ⟨List.mem_append_right _ (List.mem_append_right _ (List.mem_append_right _ (List.mem_append_left _ (List.mem_of_getElem? (i := 123) rfl)))), rfl⟩
theorem wm_3_124 : Cond.constantLong "LinearRowsModel" 46 4611686018427387904 ∈ wG := List.mem_filter.mpr ⟨List.mem_append_right _ (List.mem_append_right _ (List.mem_append_right _ (List.mem_append_left _ (List.mem_of_getElem? (i := 124) rfl)))), rfl⟩
theorem wm_3_125 : Cond.fieldLink "LinearRowsModel" 48 "LinearRowsModel" "thrown" "I" ∈ wG := List.mem_filter.mpr ⟨List.mem_append_right _ (List.mem_append_right _ (List.mem_append_right _ (List.mem_append_left _ (List.mem_of_getElem? (i := 125) rfl)))), rfl⟩
theorem wm_3_126 : Cond.fieldLink "LinearRowsModel" 42 "LinearRowsModel" "n" "I" ∈ wG := List.mem_filter.mpr ⟨List.mem_append_right _ (List.mem_append_right _ (List.mem_append_right _ (List.mem_append_left _ (List.mem_of_getElem? (i := 126) rfl)))), rfl⟩
theorem wm_3_127 : Cond.fieldLink "LinearRowsModel" 7 "LinearRowsModel" "rows" "[J" ∈ wG := List.mem_filter.mpr ⟨List.mem_append_right _ (List.mem_append_right _ (List.mem_append_right _ (List.mem_append_left _ (List.mem_of_getElem? (i := 127) rfl)))), rfl⟩
theorem wm_3_128 : Cond.fieldLink "LinearRowsModel" 13 "LinearRowsModel" "isEmpty" "[Z" ∈ wG := List.mem_filter.mpr ⟨List.mem_append_right _ (List.mem_append_right _ (List.mem_append_right _ (List.mem_append_left _ (List.mem_of_getElem? (i := 128) rfl)))), rfl⟩
theorem wm_3_129 : Cond.fieldLink "LinearRowsModel" 17 "LinearRowsModel" "d" "[J" ∈ wG := List.mem_filter.mpr ⟨List.mem_append_right _ (List.mem_append_right _ (List.mem_append_right _ (List.mem_append_left _ (List.mem_of_getElem? (i := 129) rfl)))), rfl⟩
theorem wm_3_130 : Cond.fieldLink "LinearRowsModel" 20 "LinearRowsModel" "other" "[J" ∈ wG := List.mem_filter.mpr ⟨List.mem_append_right _ (List.mem_append_right _ (List.mem_append_right _ (List.mem_append_left _ (List.mem_of_getElem? (i := 130) rfl)))), rfl⟩
theorem wm_3_131 : Cond.fieldLink "LinearRowsModel" 23 "LinearRowsModel" "made" "[J" ∈ wG := List.mem_filter.mpr ⟨List.mem_append_right _ (List.mem_append_right _ (List.mem_append_right _ (List.mem_append_left _ (List.mem_of_getElem? (i := 131) rfl)))), rfl⟩
theorem wm_3_132 : Cond.fieldLink "LinearRowsModel" 26 "LinearRowsModel" "point" "[J" ∈ wG := List.mem_filter.mpr ⟨List.mem_append_right _ (List.mem_append_right _ (List.mem_append_right _ (List.mem_append_left _ (List.mem_of_getElem? (i := 132) rfl)))), rfl⟩
theorem wm_3_133 : Cond.fieldLink "LinearRowsModel" 150 "LinearRowsModel" "needMany" "I" ∈ wG := List.mem_filter.mpr ⟨List.mem_append_right _ (List.mem_append_right _ (List.mem_append_right _ (List.mem_append_left _ (List.mem_of_getElem? (i := 133) rfl)))), rfl⟩
theorem wm_3_134 : Cond.fieldLink "LinearRowsModel" 29 "LinearRowsModel" "needA" "[I" ∈ wG := List.mem_filter.mpr ⟨List.mem_append_right _ (List.mem_append_right _ (List.mem_append_right _ (List.mem_append_left _ (List.mem_of_getElem? (i := 134) rfl)))), rfl⟩
theorem wm_3_135 : Cond.fieldLink "LinearRowsModel" 33 "LinearRowsModel" "needB" "[I" ∈ wG := List.mem_filter.mpr ⟨List.mem_append_right _ (List.mem_append_right _ (List.mem_append_right _ (List.mem_append_left _ (List.mem_of_getElem? (i := 135) rfl)))), rfl⟩
theorem wm_3_136 : Cond.fieldLink "LinearRowsModel" 36 "LinearRowsModel" "needC" "[J" ∈ wG := List.mem_filter.mpr ⟨List.mem_append_right _ (List.mem_append_right _ (List.mem_append_right _ (List.mem_append_left _ (List.mem_of_getElem? (i := 136) rfl)))), rfl⟩
theorem wm_3_137 : Cond.fieldLink "LinearRowsModel" 39 "LinearRowsModel" "isLeft" "[Z" ∈ wG := List.mem_filter.mpr ⟨List.mem_append_right _ (List.mem_append_right _ (List.mem_append_right _ (List.mem_append_left _ (List.mem_of_getElem? (i := 137) rfl)))), rfl⟩
theorem wm_3_138 : Cond.lays "LinearRowsModel" "LinearRowsModel" "thrown" "I" ∈ wG := List.mem_filter.mpr ⟨List.mem_append_right _ (List.mem_append_right _ (List.mem_append_right _ (List.mem_append_left _ (List.mem_of_getElem? (i := 138) rfl)))), rfl⟩
theorem wm_3_139 : Cond.soleField "LinearRowsModel" "thrown" ∈ wG := List.mem_filter.mpr ⟨List.mem_append_right _ (List.mem_append_right _ (List.mem_append_right _ (List.mem_append_left _ (List.mem_of_getElem? (i := 139) rfl)))), rfl⟩
theorem wm_3_140 : Cond.laysFinal "LinearRowsModel" "LinearRowsModel" "n" "I" ∈ wG := List.mem_filter.mpr ⟨List.mem_append_right _ (List.mem_append_right _ (List.mem_append_right _ (List.mem_append_left _ (List.mem_of_getElem? (i := 140) rfl)))), rfl⟩
theorem wm_3_141 : Cond.soleField "LinearRowsModel" "n" ∈ wG := List.mem_filter.mpr ⟨List.mem_append_right _ (List.mem_append_right _ (List.mem_append_right _ (List.mem_append_left _ (List.mem_of_getElem? (i := 141) rfl)))), rfl⟩
theorem wm_3_142 : Cond.laysFinal "LinearRowsModel" "LinearRowsModel" "rows" "[J" ∈ wG := List.mem_filter.mpr ⟨List.mem_append_right _ (List.mem_append_right _ (List.mem_append_right _ (List.mem_append_left _ (List.mem_of_getElem? (i := 142) rfl)))), rfl⟩
theorem wm_3_143 : Cond.soleField "LinearRowsModel" "rows" ∈ wG := List.mem_filter.mpr ⟨List.mem_append_right _ (List.mem_append_right _ (List.mem_append_right _ (List.mem_append_left _ (List.mem_of_getElem? (i := 143) rfl)))), rfl⟩
theorem wm_3_144 : Cond.laysFinal "LinearRowsModel" "LinearRowsModel" "isEmpty" "[Z" ∈ wG := List.mem_filter.mpr ⟨List.mem_append_right _ (List.mem_append_right _ (List.mem_append_right _ (List.mem_append_left _ (List.mem_of_getElem? (i := 144) rfl)))), rfl⟩
theorem wm_3_145 : Cond.soleField "LinearRowsModel" "isEmpty" ∈ wG := List.mem_filter.mpr ⟨List.mem_append_right _ (List.mem_append_right _ (List.mem_append_right _ (List.mem_append_left _ (List.mem_of_getElem? (i := 145) rfl)))), rfl⟩
theorem wm_3_146 : Cond.laysFinal "LinearRowsModel" "LinearRowsModel" "d" "[J" ∈ wG := List.mem_filter.mpr ⟨List.mem_append_right _ (List.mem_append_right _ (List.mem_append_right _ (List.mem_append_left _ (List.mem_of_getElem? (i := 146) rfl)))), rfl⟩
theorem wm_3_147 : Cond.soleField "LinearRowsModel" "d" ∈ wG := List.mem_filter.mpr ⟨List.mem_append_right _ (List.mem_append_right _ (List.mem_append_right _ (List.mem_append_left _ (List.mem_of_getElem? (i := 147) rfl)))), rfl⟩
theorem wm_3_148 : Cond.laysFinal "LinearRowsModel" "LinearRowsModel" "other" "[J" ∈ wG := List.mem_filter.mpr ⟨List.mem_append_right _ (List.mem_append_right _ (List.mem_append_right _ (List.mem_append_left _ (List.mem_of_getElem? (i := 148) rfl)))), rfl⟩
theorem wm_3_149 : Cond.soleField "LinearRowsModel" "other" ∈ wG := List.mem_filter.mpr ⟨List.mem_append_right _ (List.mem_append_right _ (List.mem_append_right _ (List.mem_append_left _ (List.mem_of_getElem? (i := 149) rfl)))), rfl⟩
theorem wm_3_150 : Cond.laysFinal "LinearRowsModel" "LinearRowsModel" "made" "[J" ∈ wG := List.mem_filter.mpr ⟨List.mem_append_right _ (List.mem_append_right _ (List.mem_append_right _ (List.mem_append_left _ (List.mem_of_getElem? (i := 150) rfl)))), rfl⟩
theorem wm_3_151 : Cond.soleField "LinearRowsModel" "made" ∈ wG := List.mem_filter.mpr ⟨List.mem_append_right _ (List.mem_append_right _ (List.mem_append_right _ (List.mem_append_left _ (List.mem_of_getElem? (i := 151) rfl)))), rfl⟩
theorem wm_3_152 : Cond.laysFinal "LinearRowsModel" "LinearRowsModel" "point" "[J" ∈ wG := List.mem_filter.mpr ⟨List.mem_append_right _ (List.mem_append_right _ (List.mem_append_right _ (List.mem_append_left _ (List.mem_of_getElem? (i := 152) rfl)))), rfl⟩
theorem wm_3_153 : Cond.soleField "LinearRowsModel" "point" ∈ wG := List.mem_filter.mpr ⟨List.mem_append_right _ (List.mem_append_right _ (List.mem_append_right _ (List.mem_append_left _ (List.mem_of_getElem? (i := 153) rfl)))), rfl⟩
theorem wm_3_154 : Cond.lays "LinearRowsModel" "LinearRowsModel" "needMany" "I" ∈ wG := List.mem_filter.mpr ⟨List.mem_append_right _ (List.mem_append_right _ (List.mem_append_right _ (List.mem_append_left _ (List.mem_of_getElem? (i := 154) rfl)))), rfl⟩
theorem wm_3_155 : Cond.soleField "LinearRowsModel" "needMany" ∈ wG := List.mem_filter.mpr ⟨List.mem_append_right _ (List.mem_append_right _ (List.mem_append_right _ (List.mem_append_left _ (List.mem_of_getElem? (i := 155) rfl)))), rfl⟩
theorem wm_3_156 : Cond.laysFinal "LinearRowsModel" "LinearRowsModel" "needA" "[I" ∈ wG := List.mem_filter.mpr ⟨List.mem_append_right _ (List.mem_append_right _ (List.mem_append_right _ (List.mem_append_left _ (List.mem_of_getElem? (i := 156) rfl)))), rfl⟩
theorem wm_3_157 : Cond.soleField "LinearRowsModel" "needA" ∈ wG := List.mem_filter.mpr ⟨List.mem_append_right _ (List.mem_append_right _ (List.mem_append_right _ (List.mem_append_left _ (List.mem_of_getElem? (i := 157) rfl)))), rfl⟩
theorem wm_3_158 : Cond.laysFinal "LinearRowsModel" "LinearRowsModel" "needB" "[I" ∈ wG := List.mem_filter.mpr ⟨List.mem_append_right _ (List.mem_append_right _ (List.mem_append_right _ (List.mem_append_left _ (List.mem_of_getElem? (i := 158) rfl)))), rfl⟩
theorem wm_3_159 : Cond.soleField "LinearRowsModel" "needB" ∈ wG := List.mem_filter.mpr ⟨List.mem_append_right _ (List.mem_append_right _ (List.mem_append_right _ (List.mem_append_left _ (List.mem_of_getElem? (i := 159) rfl)))), rfl⟩
theorem wm_3_160 : Cond.laysFinal "LinearRowsModel" "LinearRowsModel" "needC" "[J" ∈ wG := List.mem_filter.mpr ⟨List.mem_append_right _ (List.mem_append_right _ (List.mem_append_right _ (List.mem_append_left _ (List.mem_of_getElem? (i := 160) rfl)))), rfl⟩
theorem wm_3_161 : Cond.soleField "LinearRowsModel" "needC" ∈ wG := List.mem_filter.mpr ⟨List.mem_append_right _ (List.mem_append_right _ (List.mem_append_right _ (List.mem_append_left _ (List.mem_of_getElem? (i := 161) rfl)))), rfl⟩
theorem wm_3_162 : Cond.laysFinal "LinearRowsModel" "LinearRowsModel" "isLeft" "[Z" ∈ wG := List.mem_filter.mpr ⟨List.mem_append_right _ (List.mem_append_right _ (List.mem_append_right _ (List.mem_append_left _ (List.mem_of_getElem? (i := 162) rfl)))), rfl⟩
theorem wm_3_163 : Cond.soleField "LinearRowsModel" "isLeft" ∈ wG := List.mem_filter.mpr ⟨List.mem_append_right _ (List.mem_append_right _ (List.mem_append_right _ (List.mem_append_left _ (List.mem_of_getElem? (i := 163) rfl)))), rfl⟩
theorem wm_3_164 : Cond.superclass "LinearRowsModel" "java/lang/Object" ∈ wG := List.mem_filter.mpr ⟨List.mem_append_right _ (List.mem_append_right _ (List.mem_append_right _ (List.mem_append_left _ (List.mem_of_getElem? (i := 164) rfl)))), rfl⟩
theorem wm_3_165 : Cond.arrayClass FieldType.boolean ∈ wG := List.mem_filter.mpr ⟨List.mem_append_right _ (List.mem_append_right _ (List.mem_append_right _ (List.mem_append_left _ (List.mem_of_getElem? (i := 165) rfl)))), rfl⟩
theorem wm_3_166 : Cond.arrayClass FieldType.int ∈ wG := List.mem_filter.mpr ⟨List.mem_append_right _ (List.mem_append_right _ (List.mem_append_right _ (List.mem_append_left _ (List.mem_of_getElem? (i := 166) rfl)))), rfl⟩
theorem wm_3_167 : Cond.methodLink "LinearRowsLaw" 106 y_M_thrown ∈ wG := List.mem_filter.mpr ⟨List.mem_append_right _ (List.mem_append_right _ (List.mem_append_right _ (List.mem_append_left _ (List.mem_of_getElem? (i := 167) rfl)))), rfl⟩
theorem wm_3_168 : Cond.instanceMethod y_M_thrown ∈ wG := List.mem_filter.mpr ⟨List.mem_append_right _ (List.mem_append_right _ (List.mem_append_right _ (List.mem_append_left _ (List.mem_of_getElem? (i := 168) rfl)))), rfl⟩
theorem wm_3_169 : Cond.selects "LinearRowsModel" y_M_thrown y_M_thrown ∈ wG := List.mem_filter.mpr ⟨List.mem_append_right _ (List.mem_append_right _ (List.mem_append_right _ (List.mem_append_left _ (List.mem_of_getElem? (i := 169) rfl)))), rfl⟩
theorem wm_3_170 : Cond.code y_M_thrown b_M_thrown 1 (some .int) ∈ wG := List.mem_filter.mpr ⟨List.mem_append_right _ (List.mem_append_right _ (List.mem_append_right _ (List.mem_append_left _ (List.mem_of_getElem? (i := 170) rfl)))), rfl⟩
theorem wm_3_171 : Cond.methodLink "LinearRowsLaw" 105 y_M_all ∈ wG := List.mem_filter.mpr ⟨List.mem_append_right _ (List.mem_append_right _ (List.mem_append_right _ (List.mem_append_left _ (List.mem_of_getElem? (i := 171) rfl)))), rfl⟩
theorem wm_3_172 : Cond.instanceMethod y_M_all ∈ wG := List.mem_filter.mpr ⟨List.mem_append_right _ (List.mem_append_right _ (List.mem_append_right _ (List.mem_append_left _ (List.mem_of_getElem? (i := 172) rfl)))), rfl⟩
theorem wm_3_173 : Cond.selects "LinearRowsModel" y_M_all y_M_all ∈ wG := List.mem_filter.mpr ⟨List.mem_append_right _ (List.mem_append_right _ (List.mem_append_right _ (List.mem_append_left _ (List.mem_of_getElem? (i := 173) rfl)))), rfl⟩
theorem wm_3_174 : Cond.code y_M_all b_M_all 2 none ∈ wG := List.mem_filter.mpr ⟨List.mem_append_right _ (List.mem_append_right _ (List.mem_append_right _ (List.mem_append_left _ (List.mem_of_getElem? (i := 174) rfl)))), rfl⟩
theorem wm_3_175 : Cond.methodLink "LinearRowsModel" 83 y_M_isShape ∈ wG := List.mem_filter.mpr ⟨List.mem_append_right _ (List.mem_append_right _ (List.mem_append_right _ (List.mem_append_left _ (List.mem_of_getElem? (i := 175) rfl)))), rfl⟩
theorem wm_3_177 : Cond.instanceMethod y_M_isShape ∈ wG := List.mem_filter.mpr ⟨List.mem_append_right _ (List.mem_append_right _ (List.mem_append_right _ (List.mem_append_left _ (List.mem_of_getElem? (i := 177) rfl)))), rfl⟩
theorem wm_3_178 : Cond.code y_M_isShape b_M_isShape 2 (some .boolean) ∈ wG := List.mem_filter.mpr ⟨List.mem_append_right _ (List.mem_append_right _ (List.mem_append_right _ (List.mem_append_left _ (List.mem_of_getElem? (i := 178) rfl)))), rfl⟩
theorem wm_3_179 : Cond.methodLink "LinearRowsModel" 73 y_M_none ∈ wG := List.mem_filter.mpr ⟨List.mem_append_right _ (List.mem_append_right _ (List.mem_append_right _ (List.mem_append_left _ (List.mem_of_getElem? (i := 179) rfl)))), rfl⟩
theorem wm_3_181 : Cond.instanceMethod y_M_none ∈ wG := List.mem_filter.mpr ⟨List.mem_append_right _ (List.mem_append_right _ (List.mem_append_right _ (List.mem_append_left _ (List.mem_of_getElem? (i := 181) rfl)))), rfl⟩
theorem wm_3_182 : Cond.code y_M_none b_M_none 3 none ∈ wG := List.mem_filter.mpr ⟨List.mem_append_right _ (List.mem_append_right _ (List.mem_append_right _ (List.mem_append_left _ (List.mem_of_getElem? (i := 182) rfl)))), rfl⟩
theorem wm_3_183 : Cond.methodLink "LinearRowsLaw" 115 y_M_row ∈ wG := List.mem_filter.mpr ⟨List.mem_append_right _ (List.mem_append_right _ (List.mem_append_right _ (List.mem_append_left _ (List.mem_of_getElem? (i := 183) rfl)))), rfl⟩
theorem wm_3_184 : Cond.instanceMethod y_M_row ∈ wG := List.mem_filter.mpr ⟨List.mem_append_right _ (List.mem_append_right _ (List.mem_append_right _ (List.mem_append_left _ (List.mem_of_getElem? (i := 184) rfl)))), rfl⟩
theorem wm_3_185 : Cond.selects "LinearRowsModel" y_M_row y_M_row ∈ wG := List.mem_filter.mpr ⟨List.mem_append_right _ (List.mem_append_right _ (List.mem_append_right _ (List.mem_append_left _ (List.mem_of_getElem? (i := 185) rfl)))), rfl⟩
theorem wm_3_186 : Cond.code y_M_row b_M_row 12 (some .int) ∈ wG := List.mem_filter.mpr ⟨List.mem_append_right _ (List.mem_append_right _ (List.mem_append_right _ (List.mem_append_left _ (List.mem_of_getElem? (i := 186) rfl)))), rfl⟩
theorem wm_3_187 : Cond.methodLink "LinearRowsModel" 91 y_M_isTerm ∈ wG := List.mem_filter.mpr ⟨List.mem_append_right _ (List.mem_append_right _ (List.mem_append_right _ (List.mem_append_left _ (List.mem_of_getElem? (i := 187) rfl)))), rfl⟩
theorem wm_3_189 : Cond.instanceMethod y_M_isTerm ∈ wG := List.mem_filter.mpr ⟨List.mem_append_right _ (List.mem_append_right _ (List.mem_append_right _ (List.mem_append_left _ (List.mem_of_getElem? (i := 189) rfl)))), rfl⟩
theorem wm_3_190 : Cond.code y_M_isTerm b_M_isTerm 2 (some .boolean) ∈ wG := List.mem_filter.mpr ⟨List.mem_append_right _ (List.mem_append_right _ (List.mem_append_right _ (List.mem_append_left _ (List.mem_of_getElem? (i := 190) rfl)))), rfl⟩
theorem wm_3_191 : Cond.methodLink "LinearRowsModel" 94 y_M_isSmall ∈ wG := List.mem_filter.mpr ⟨List.mem_append_right _ (List.mem_append_right _ (List.mem_append_right _ (List.mem_append_left _ (List.mem_of_getElem? (i := 191) rfl)))), rfl⟩
theorem wm_3_192 : Cond.static y_M_isSmall ∈ wG := List.mem_filter.mpr ⟨List.mem_append_right _ (List.mem_append_right _ (List.mem_append_right _ (List.mem_append_left _ (List.mem_of_getElem? (i := 192) rfl)))), rfl⟩
theorem wm_3_193 : Cond.code y_M_isSmall b_M_isSmall 2 (some .boolean) ∈ wG := List.mem_filter.mpr ⟨List.mem_append_right _ (List.mem_append_right _ (List.mem_append_right _ (List.mem_append_left _ (List.mem_of_getElem? (i := 193) rfl)))), rfl⟩
theorem wm_3_194 : Cond.constantLong "LinearRowsModel" 87 (-1000000000) ∈ wG := List.mem_filter.mpr ⟨List.mem_append_right _ (List.mem_append_right _ (List.mem_append_right _ (List.mem_append_left _ (List.mem_of_getElem? (i := 194) rfl)))), rfl⟩
theorem wm_3_195 : Cond.constantLong "LinearRowsModel" 89 1000000000 ∈ wG := List.mem_filter.mpr ⟨List.mem_append_right _ (List.mem_append_right _ (List.mem_append_right _ (List.mem_append_left _ (List.mem_of_getElem? (i := 195) rfl)))), rfl⟩
theorem wm_3_196 : Cond.methodLink "LinearRowsModel" 80 y_M_at ∈ wG := List.mem_filter.mpr ⟨List.mem_append_right _ (List.mem_append_right _ (List.mem_append_right _ (List.mem_append_left _ (List.mem_of_getElem? (i := 196) rfl)))), rfl⟩
theorem wm_3_197 : Cond.static y_M_at ∈ wG := List.mem_filter.mpr ⟨List.mem_append_right _ (List.mem_append_right _ (List.mem_append_right _ (List.mem_append_left _ (List.mem_of_getElem? (i := 197) rfl)))), rfl⟩
theorem wm_3_198 : Cond.code y_M_at b_M_at 1 (some .int) ∈ wG := List.mem_filter.mpr ⟨List.mem_append_right _ (List.mem_append_right _ (List.mem_append_right _ (List.mem_append_left _ (List.mem_of_getElem? (i := 198) rfl)))), rfl⟩
theorem wm_3_199 : Cond.methodLink "LinearRowsModel" 61 y_M_half ∈ wG := List.mem_filter.mpr ⟨List.mem_append_right _ (List.mem_append_right _ (List.mem_append_right _ (List.mem_append_left _ (List.mem_of_getElem? (i := 199) rfl)))), rfl⟩
theorem wm_3_200 : Cond.static y_M_half ∈ wG := List.mem_filter.mpr ⟨List.mem_append_right _ (List.mem_append_right _ (List.mem_append_right _ (List.mem_append_left _ (List.mem_of_getElem? (i := 200) rfl)))), rfl⟩
theorem wm_3_201 : Cond.code y_M_half b_M_half 2 (some .long) ∈ wG := List.mem_filter.mpr ⟨List.mem_append_right _ (List.mem_append_right _ (List.mem_append_right _ (List.mem_append_left _ (List.mem_of_getElem? (i := 201) rfl)))), rfl⟩
theorem wm_3_202 : Cond.constantLong "LinearRowsModel" 51 2 ∈ wG := List.mem_filter.mpr ⟨List.mem_append_right _ (List.mem_append_right _ (List.mem_append_right _ (List.mem_append_left _ (List.mem_of_getElem? (i := 202) rfl)))), rfl⟩
theorem wm_3_203 : Cond.methodLink "LinearRowsModel" 98 y_M_closeShape ∈ wG := List.mem_filter.mpr ⟨List.mem_append_right _ (List.mem_append_right _ (List.mem_append_right _ (List.mem_append_left _ (List.mem_of_getElem? (i := 203) rfl)))), rfl⟩
theorem wm_3_205 : Cond.instanceMethod y_M_closeShape ∈ wG := List.mem_filter.mpr ⟨List.mem_append_right _ (List.mem_append_right _ (List.mem_append_right _ (List.mem_append_left _ (List.mem_of_getElem? (i := 205) rfl)))), rfl⟩
theorem wm_3_206 : Cond.code y_M_closeShape b_M_closeShape 2 (some .boolean) ∈ wG := List.mem_filter.mpr ⟨List.mem_append_right _ (List.mem_append_right _ (List.mem_append_right _ (List.mem_append_left _ (List.mem_of_getElem? (i := 206) rfl)))), rfl⟩
theorem wm_3_207 : Cond.methodLink "LinearRowsModel" 77 y_M_loadRows ∈ wG := List.mem_filter.mpr ⟨List.mem_append_right _ (List.mem_append_right _ (List.mem_append_right _ (List.mem_append_left _ (List.mem_of_getElem? (i := 207) rfl)))), rfl⟩
theorem wm_3_209 : Cond.instanceMethod y_M_loadRows ∈ wG := List.mem_filter.mpr ⟨List.mem_append_right _ (List.mem_append_right _ (List.mem_append_right _ (List.mem_append_left _ (List.mem_of_getElem? (i := 209) rfl)))), rfl⟩
theorem wm_3_210 : Cond.code y_M_loadRows b_M_loadRows 3 none ∈ wG := List.mem_filter.mpr ⟨List.mem_append_right _ (List.mem_append_right _ (List.mem_append_right _ (List.mem_append_left _ (List.mem_of_getElem? (i := 210) rfl)))), rfl⟩
theorem wm_3_211 : Cond.methodLink "LinearRowsModel" 69 y_M_close ∈ wG := List.mem_filter.mpr ⟨List.mem_append_right _ (List.mem_append_right _ (List.mem_append_right _ (List.mem_append_left _ (List.mem_of_getElem? (i := 211) rfl)))), rfl⟩
theorem wm_3_213 : Cond.instanceMethod y_M_close ∈ wG := List.mem_filter.mpr ⟨List.mem_append_right _ (List.mem_append_right _ (List.mem_append_right _ (List.mem_append_left _ (List.mem_of_getElem? (i := 213) rfl)))), rfl⟩
theorem wm_3_214 : Cond.code y_M_close b_M_close 8 (some .boolean) ∈ wG := List.mem_filter.mpr ⟨List.mem_append_right _ (List.mem_append_right _ (List.mem_append_right _ (List.mem_append_left _ (List.mem_of_getElem? (i := 214) rfl)))), rfl⟩
theorem wm_3_215 : Cond.methodLink "LinearRowsModel" 53 y_M_opposite ∈ wG := List.mem_filter.mpr ⟨List.mem_append_right _ (List.mem_append_right _ (List.mem_append_right _ (List.mem_append_left _ (List.mem_of_getElem? (i := 215) rfl)))), rfl⟩
theorem wm_3_216 : Cond.static y_M_opposite ∈ wG := List.mem_filter.mpr ⟨List.mem_append_right _ (List.mem_append_right _ (List.mem_append_right _ (List.mem_append_left _ (List.mem_of_getElem? (i := 216) rfl)))), rfl⟩
theorem wm_3_217 : Cond.code y_M_opposite b_M_opposite 1 (some .int) ∈ wG := List.mem_filter.mpr ⟨List.mem_append_right _ (List.mem_append_right _ (List.mem_append_right _ (List.mem_append_left _ (List.mem_of_getElem? (i := 217) rfl)))), rfl⟩
theorem wm_3_218 : Cond.methodLink "LinearRowsModel" 57 y_M_sum ∈ wG := List.mem_filter.mpr ⟨List.mem_append_right _ (List.mem_append_right _ (List.mem_append_right _ (List.mem_append_left _ (List.mem_of_getElem? (i := 218) rfl)))), rfl⟩
theorem wm_3_219 : Cond.static y_M_sum ∈ wG := List.mem_filter.mpr ⟨List.mem_append_right _ (List.mem_append_right _ (List.mem_append_right _ (List.mem_append_left _ (List.mem_of_getElem? (i := 219) rfl)))), rfl⟩
theorem wm_3_220 : Cond.code y_M_sum b_M_sum 4 (some .long) ∈ wG := List.mem_filter.mpr ⟨List.mem_append_right _ (List.mem_append_right _ (List.mem_append_right _ (List.mem_append_left _ (List.mem_of_getElem? (i := 220) rfl)))), rfl⟩
theorem wm_3_221 : Cond.methodLink "LinearRowsModel" 101 y_M_isFar ∈ wG := List.mem_filter.mpr ⟨List.mem_append_right _ (List.mem_append_right _ (List.mem_append_right _ (List.mem_append_left _ (List.mem_of_getElem? (i := 221) rfl)))), rfl⟩
theorem wm_3_223 : Cond.instanceMethod y_M_isFar ∈ wG := List.mem_filter.mpr ⟨List.mem_append_right _ (List.mem_append_right _ (List.mem_append_right _ (List.mem_append_left _ (List.mem_of_getElem? (i := 223) rfl)))), rfl⟩
theorem wm_3_224 : Cond.code y_M_isFar b_M_isFar 7 (some .boolean) ∈ wG := List.mem_filter.mpr ⟨List.mem_append_right _ (List.mem_append_right _ (List.mem_append_right _ (List.mem_append_left _ (List.mem_of_getElem? (i := 224) rfl)))), rfl⟩
theorem wm_3_225 : Cond.constantLong "LinearRowsModel" 65 1000000000000000 ∈ wG := List.mem_filter.mpr ⟨List.mem_append_right _ (List.mem_append_right _ (List.mem_append_right _ (List.mem_append_left _ (List.mem_of_getElem? (i := 225) rfl)))), rfl⟩
theorem wm_3_226 : Cond.constantLong "LinearRowsModel" 67 (-1000000000000000) ∈ wG := List.mem_filter.mpr ⟨List.mem_append_right _ (List.mem_append_right _ (List.mem_append_right _ (List.mem_append_left _ (List.mem_of_getElem? (i := 226) rfl)))), rfl⟩
theorem wm_3_227 : Cond.methodLink "LinearRowsLaw" 119 y_M_bound ∈ wG := List.mem_filter.mpr ⟨List.mem_append_right _ (List.mem_append_right _ (List.mem_append_right _ (List.mem_append_left _ (List.mem_of_getElem? (i := 227) rfl)))), rfl⟩
theorem wm_3_228 : Cond.instanceMethod y_M_bound ∈ wG := List.mem_filter.mpr ⟨List.mem_append_right _ (List.mem_append_right _ (List.mem_append_right _ (List.mem_append_left _ (List.mem_of_getElem? (i := 228) rfl)))), rfl⟩
theorem wm_3_229 : Cond.selects "LinearRowsModel" y_M_bound y_M_bound ∈ wG := List.mem_filter.mpr ⟨List.mem_append_right _ (List.mem_append_right _ (List.mem_append_right _ (List.mem_append_left _ (List.mem_of_getElem? (i := 229) rfl)))), rfl⟩
theorem wm_3_230 : Cond.code y_M_bound b_M_bound 4 (some .long) ∈ wG := List.mem_filter.mpr ⟨List.mem_append_right _ (List.mem_append_right _ (List.mem_append_right _ (List.mem_append_left _ (List.mem_of_getElem? (i := 230) rfl)))), rfl⟩
theorem wm_3_231 : Cond.methodLink "LinearRowsModel" 104 y_M_boundOf ∈ wG := List.mem_filter.mpr ⟨List.mem_append_right _ (List.mem_append_right _ (List.mem_append_right _ (List.mem_append_left _ (List.mem_of_getElem? (i := 231) rfl)))), rfl⟩
theorem wm_3_233 : Cond.instanceMethod y_M_boundOf ∈ wG := List.mem_filter.mpr ⟨List.mem_append_right _ (List.mem_append_right _ (List.mem_append_right _ (List.mem_append_left _ (List.mem_of_getElem? (i := 233) rfl)))), rfl⟩
theorem wm_3_234 : Cond.code y_M_boundOf b_M_boundOf 5 (some .long) ∈ wG := List.mem_filter.mpr ⟨List.mem_append_right _ (List.mem_append_right _ (List.mem_append_right _ (List.mem_append_left _ (List.mem_of_getElem? (i := 234) rfl)))), rfl⟩
theorem wm_3_235 : Cond.constantLong "LinearRowsModel" 108 (-4611686018427387904) ∈ wG := List.mem_filter.mpr ⟨List.mem_append_right _ (List.mem_append_right _ (List.mem_append_right _ (List.mem_append_left _ (List.mem_of_getElem? (i := 235) rfl)))), rfl⟩
theorem wm_3_236 : Cond.methodLink "LinearRowsLaw" 122 y_M_kept ∈ wG := List.mem_filter.mpr ⟨List.mem_append_right _ (List.mem_append_right _ (List.mem_append_right _ (List.mem_append_left _ (List.mem_of_getElem? (i := 236) rfl)))), rfl⟩
theorem wm_3_237 : Cond.instanceMethod y_M_kept ∈ wG := List.mem_filter.mpr ⟨List.mem_append_right _ (List.mem_append_right _ (List.mem_append_right _ (List.mem_append_left _ (List.mem_of_getElem? (i := 237) rfl)))), rfl⟩
theorem wm_3_238 : Cond.selects "LinearRowsModel" y_M_kept y_M_kept ∈ wG := List.mem_filter.mpr ⟨List.mem_append_right _ (List.mem_append_right _ (List.mem_append_right _ (List.mem_append_left _ (List.mem_of_getElem? (i := 238) rfl)))), rfl⟩
theorem wm_3_239 : Cond.code y_M_kept b_M_kept 4 (some .long) ∈ wG := List.mem_filter.mpr ⟨List.mem_append_right _ (List.mem_append_right _ (List.mem_append_right _ (List.mem_append_left _ (List.mem_of_getElem? (i := 239) rfl)))), rfl⟩
theorem wm_4_0 : Cond.methodLink "LinearRowsLaw" 125 y_M_meet ∈ wG := List.mem_filter.mpr ⟨List.mem_append_right _ (List.mem_append_right _ (List.mem_append_right _ (List.mem_append_right _ (List.mem_of_getElem? (i := 0) rfl)))), rfl⟩
theorem wm_4_1 : Cond.instanceMethod y_M_meet ∈ wG := List.mem_filter.mpr ⟨List.mem_append_right _ (List.mem_append_right _ (List.mem_append_right _ (List.mem_append_right _ (List.mem_of_getElem? (i := 1) rfl)))), rfl⟩
theorem wm_4_2 : Cond.selects "LinearRowsModel" y_M_meet y_M_meet ∈ wG := List.mem_filter.mpr ⟨List.mem_append_right _ (List.mem_append_right _ (List.mem_append_right _ (List.mem_append_right _ (List.mem_of_getElem? (i := 2) rfl)))), rfl⟩
theorem wm_4_3 : Cond.code y_M_meet b_M_meet 5 (some .int) ∈ wG := List.mem_filter.mpr ⟨List.mem_append_right _ (List.mem_append_right _ (List.mem_append_right _ (List.mem_append_right _ (List.mem_of_getElem? (i := 3) rfl)))), rfl⟩
theorem wm_4_4 : Cond.methodLink "LinearRowsModel" 110 y_M_areShapes ∈ wG := List.mem_filter.mpr ⟨List.mem_append_right _ (List.mem_append_right _ (List.mem_append_right _ (List.mem_append_right _ (List.mem_of_getElem? (i := 4) rfl)))), rfl⟩
theorem wm_4_6 : Cond.instanceMethod y_M_areShapes ∈ wG := List.mem_filter.mpr ⟨List.mem_append_right _ (List.mem_append_right _ (List.mem_append_right _ (List.mem_append_right _ (List.mem_of_getElem? (i := 6) rfl)))), rfl⟩
theorem wm_4_7 : Cond.code y_M_areShapes b_M_areShapes 4 (some .boolean) ∈ wG := List.mem_filter.mpr ⟨List.mem_append_right _ (List.mem_append_right _ (List.mem_append_right _ (List.mem_append_right _ (List.mem_of_getElem? (i := 7) rfl)))), rfl⟩
theorem wm_4_8 : Cond.methodLink "LinearRowsModel" 114 y_M_keepClosed ∈ wG := List.mem_filter.mpr ⟨List.mem_append_right _ (List.mem_append_right _ (List.mem_append_right _ (List.mem_append_right _ (List.mem_of_getElem? (i := 8) rfl)))), rfl⟩
theorem wm_4_10 : Cond.instanceMethod y_M_keepClosed ∈ wG := List.mem_filter.mpr ⟨List.mem_append_right _ (List.mem_append_right _ (List.mem_append_right _ (List.mem_append_right _ (List.mem_of_getElem? (i := 10) rfl)))), rfl⟩
theorem wm_4_11 : Cond.code y_M_keepClosed b_M_keepClosed 7 (some .int) ∈ wG := List.mem_filter.mpr ⟨List.mem_append_right _ (List.mem_append_right _ (List.mem_append_right _ (List.mem_append_right _ (List.mem_of_getElem? (i := 11) rfl)))), rfl⟩
theorem wm_4_12 : Cond.methodLink "LinearRowsModel" 118 y_M_copyTable ∈ wG := List.mem_filter.mpr ⟨List.mem_append_right _ (List.mem_append_right _ (List.mem_append_right _ (List.mem_append_right _ (List.mem_of_getElem? (i := 12) rfl)))), rfl⟩
theorem wm_4_14 : Cond.instanceMethod y_M_copyTable ∈ wG := List.mem_filter.mpr ⟨List.mem_append_right _ (List.mem_append_right _ (List.mem_append_right _ (List.mem_append_right _ (List.mem_of_getElem? (i := 14) rfl)))), rfl⟩
theorem wm_4_15 : Cond.code y_M_copyTable b_M_copyTable 3 none ∈ wG := List.mem_filter.mpr ⟨List.mem_append_right _ (List.mem_append_right _ (List.mem_append_right _ (List.mem_append_right _ (List.mem_of_getElem? (i := 15) rfl)))), rfl⟩
theorem wm_4_16 : Cond.methodLink "LinearRowsLaw" 128 y_M_join ∈ wG := List.mem_filter.mpr ⟨List.mem_append_right _ (List.mem_append_right _ (List.mem_append_right _ (List.mem_append_right _ (List.mem_of_getElem? (i := 16) rfl)))), rfl⟩
theorem wm_4_17 : Cond.instanceMethod y_M_join ∈ wG := List.mem_filter.mpr ⟨List.mem_append_right _ (List.mem_append_right _ (List.mem_append_right _ (List.mem_append_right _ (List.mem_of_getElem? (i := 17) rfl)))), rfl⟩
theorem wm_4_18 : Cond.selects "LinearRowsModel" y_M_join y_M_join ∈ wG := List.mem_filter.mpr ⟨List.mem_append_right _ (List.mem_append_right _ (List.mem_append_right _ (List.mem_append_right _ (List.mem_of_getElem? (i := 18) rfl)))), rfl⟩
theorem wm_4_19 : Cond.code y_M_join b_M_join 7 (some .int) ∈ wG := List.mem_filter.mpr ⟨List.mem_append_right _ (List.mem_append_right _ (List.mem_append_right _ (List.mem_append_right _ (List.mem_of_getElem? (i := 19) rfl)))), rfl⟩
theorem wm_4_20 : Cond.methodLink "LinearRowsLaw" 131 y_M_widen ∈ wG := List.mem_filter.mpr ⟨List.mem_append_right _ (List.mem_append_right _ (List.mem_append_right _ (List.mem_append_right _ (List.mem_of_getElem? (i := 20) rfl)))), rfl⟩
theorem wm_4_21 : Cond.instanceMethod y_M_widen ∈ wG := List.mem_filter.mpr ⟨List.mem_append_right _ (List.mem_append_right _ (List.mem_append_right _ (List.mem_append_right _ (List.mem_of_getElem? (i := 21) rfl)))), rfl⟩
theorem wm_4_22 : Cond.selects "LinearRowsModel" y_M_widen y_M_widen ∈ wG := List.mem_filter.mpr ⟨List.mem_append_right _ (List.mem_append_right _ (List.mem_append_right _ (List.mem_append_right _ (List.mem_of_getElem? (i := 22) rfl)))), rfl⟩
theorem wm_4_23 : Cond.code y_M_widen b_M_widen 11 (some .int) ∈ wG := List.mem_filter.mpr ⟨List.mem_append_right _ (List.mem_append_right _ (List.mem_append_right _ (List.mem_append_right _ (List.mem_of_getElem? (i := 23) rfl)))), rfl⟩
theorem wm_4_24 : Cond.methodLink "LinearRowsModel" 122 y_M_copyRows ∈ wG := List.mem_filter.mpr ⟨List.mem_append_right _ (List.mem_append_right _ (List.mem_append_right _ (List.mem_append_right _ (List.mem_of_getElem? (i := 24) rfl)))), rfl⟩
theorem wm_4_26 : Cond.instanceMethod y_M_copyRows ∈ wG := List.mem_filter.mpr ⟨List.mem_append_right _ (List.mem_append_right _ (List.mem_append_right _ (List.mem_append_right _ (List.mem_of_getElem? (i := 26) rfl)))), rfl⟩
theorem wm_4_27 : Cond.code y_M_copyRows b_M_copyRows 4 none ∈ wG := List.mem_filter.mpr ⟨List.mem_append_right _ (List.mem_append_right _ (List.mem_append_right _ (List.mem_append_right _ (List.mem_of_getElem? (i := 27) rfl)))), rfl⟩
theorem wm_4_28 : Cond.methodLink "LinearRowsModel" 126 y_M_closeMade ∈ wG := List.mem_filter.mpr ⟨List.mem_append_right _ (List.mem_append_right _ (List.mem_append_right _ (List.mem_append_right _ (List.mem_of_getElem? (i := 28) rfl)))), rfl⟩
theorem wm_4_30 : Cond.instanceMethod y_M_closeMade ∈ wG := List.mem_filter.mpr ⟨List.mem_append_right _ (List.mem_append_right _ (List.mem_append_right _ (List.mem_append_right _ (List.mem_of_getElem? (i := 30) rfl)))), rfl⟩
theorem wm_4_31 : Cond.code y_M_closeMade b_M_closeMade 5 (some .boolean) ∈ wG := List.mem_filter.mpr ⟨List.mem_append_right _ (List.mem_append_right _ (List.mem_append_right _ (List.mem_append_right _ (List.mem_of_getElem? (i := 31) rfl)))), rfl⟩
theorem wm_4_32 : Cond.methodLink "LinearRowsModel" 129 y_M_keepMade ∈ wG := List.mem_filter.mpr ⟨List.mem_append_right _ (List.mem_append_right _ (List.mem_append_right _ (List.mem_append_right _ (List.mem_of_getElem? (i := 32) rfl)))), rfl⟩
theorem wm_4_34 : Cond.instanceMethod y_M_keepMade ∈ wG := List.mem_filter.mpr ⟨List.mem_append_right _ (List.mem_append_right _ (List.mem_append_right _ (List.mem_append_right _ (List.mem_of_getElem? (i := 34) rfl)))), rfl⟩
theorem wm_4_35 : Cond.code y_M_keepMade b_M_keepMade 4 none ∈ wG := List.mem_filter.mpr ⟨List.mem_append_right _ (List.mem_append_right _ (List.mem_append_right _ (List.mem_append_right _ (List.mem_of_getElem? (i := 35) rfl)))), rfl⟩
theorem wm_4_36 : Cond.methodLink "LinearRowsLaw" 134 y_M_narrow ∈ wG := List.mem_filter.mpr ⟨List.mem_append_right _ (List.mem_append_right _ (List.mem_append_right _ (List.mem_append_right _ (List.mem_of_getElem? (i := 36) rfl)))), rfl⟩
theorem wm_4_37 : Cond.instanceMethod y_M_narrow ∈ wG := List.mem_filter.mpr ⟨List.mem_append_right _ (List.mem_append_right _ (List.mem_append_right _ (List.mem_append_right _ (List.mem_of_getElem? (i := 37) rfl)))), rfl⟩
theorem wm_4_38 : Cond.selects "LinearRowsModel" y_M_narrow y_M_narrow ∈ wG := List.mem_filter.mpr ⟨List.mem_append_right _ (List.mem_append_right _ (List.mem_append_right _ (List.mem_append_right _ (List.mem_of_getElem? (i := 38) rfl)))), rfl⟩
theorem wm_4_39 : Cond.code y_M_narrow b_M_narrow 12 (some .int) ∈ wG := List.mem_filter.mpr ⟨List.mem_append_right _ (List.mem_append_right _ (List.mem_append_right _ (List.mem_append_right _ (List.mem_of_getElem? (i := 39) rfl)))), rfl⟩
theorem wm_4_40 : Cond.methodLink "LinearRowsLaw" 138 y_M_copy ∈ wG := List.mem_filter.mpr ⟨List.mem_append_right _ (List.mem_append_right _ (List.mem_append_right _ (List.mem_append_right _ (List.mem_of_getElem? (i := 40) rfl)))), rfl⟩
theorem wm_4_41 : Cond.instanceMethod y_M_copy ∈ wG := List.mem_filter.mpr ⟨List.mem_append_right _ (List.mem_append_right _ (List.mem_append_right _ (List.mem_append_right _ (List.mem_of_getElem? (i := 41) rfl)))), rfl⟩
theorem wm_4_42 : Cond.selects "LinearRowsModel" y_M_copy y_M_copy ∈ wG := List.mem_filter.mpr ⟨List.mem_append_right _ (List.mem_append_right _ (List.mem_append_right _ (List.mem_append_right _ (List.mem_of_getElem? (i := 42) rfl)))), rfl⟩
theorem wm_4_43 : Cond.code y_M_copy b_M_copy 3 none ∈ wG := List.mem_filter.mpr ⟨List.mem_append_right _ (List.mem_append_right _ (List.mem_append_right _ (List.mem_append_right _ (List.mem_of_getElem? (i := 43) rfl)))), rfl⟩
theorem wm_4_44 : Cond.methodLink "LinearRowsLaw" 141 y_M_set ∈ wG := List.mem_filter.mpr ⟨List.mem_append_right _ (List.mem_append_right _ (List.mem_append_right _ (List.mem_append_right _ (List.mem_of_getElem? (i := 44) rfl)))), rfl⟩
theorem wm_4_45 : Cond.instanceMethod y_M_set ∈ wG := List.mem_filter.mpr ⟨List.mem_append_right _ (List.mem_append_right _ (List.mem_append_right _ (List.mem_append_right _ (List.mem_of_getElem? (i := 45) rfl)))), rfl⟩
theorem wm_4_46 : Cond.selects "LinearRowsModel" y_M_set y_M_set ∈ wG := List.mem_filter.mpr ⟨List.mem_append_right _ (List.mem_append_right _ (List.mem_append_right _ (List.mem_append_right _ (List.mem_of_getElem? (i := 46) rfl)))), rfl⟩
theorem wm_4_47 : Cond.code y_M_set b_M_set 7 (some .int) ∈ wG := List.mem_filter.mpr ⟨List.mem_append_right _ (List.mem_append_right _ (List.mem_append_right _ (List.mem_append_right _ (List.mem_of_getElem? (i := 47) rfl)))), rfl⟩
theorem wm_4_48 : Cond.methodLink "LinearRowsModel" 132 y_M_isName ∈ wG := List.mem_filter.mpr ⟨List.mem_append_right _ (List.mem_append_right _ (List.mem_append_right _ (List.mem_append_right _ (List.mem_of_getElem? (i := 48) rfl)))), rfl⟩
theorem wm_4_50 : Cond.instanceMethod y_M_isName ∈ wG := List.mem_filter.mpr ⟨List.mem_append_right _ (List.mem_append_right _ (List.mem_append_right _ (List.mem_append_right _ (List.mem_of_getElem? (i := 50) rfl)))), rfl⟩
theorem wm_4_51 : Cond.code y_M_isName b_M_isName 2 (some .boolean) ∈ wG := List.mem_filter.mpr ⟨List.mem_append_right _ (List.mem_append_right _ (List.mem_append_right _ (List.mem_append_right _ (List.mem_of_getElem? (i := 51) rfl)))), rfl⟩
theorem wm_4_52 : Cond.methodLink "LinearRowsModel" 135 y_M_turn ∈ wG := List.mem_filter.mpr ⟨List.mem_append_right _ (List.mem_append_right _ (List.mem_append_right _ (List.mem_append_right _ (List.mem_of_getElem? (i := 52) rfl)))), rfl⟩
theorem wm_4_54 : Cond.instanceMethod y_M_turn ∈ wG := List.mem_filter.mpr ⟨List.mem_append_right _ (List.mem_append_right _ (List.mem_append_right _ (List.mem_append_right _ (List.mem_of_getElem? (i := 54) rfl)))), rfl⟩
theorem wm_4_55 : Cond.code y_M_turn b_M_turn 12 none ∈ wG := List.mem_filter.mpr ⟨List.mem_append_right _ (List.mem_append_right _ (List.mem_append_right _ (List.mem_append_right _ (List.mem_of_getElem? (i := 55) rfl)))), rfl⟩
theorem wm_4_56 : Cond.methodLink "LinearRowsModel" 139 y_M_drop ∈ wG := List.mem_filter.mpr ⟨List.mem_append_right _ (List.mem_append_right _ (List.mem_append_right _ (List.mem_append_right _ (List.mem_of_getElem? (i := 56) rfl)))), rfl⟩
theorem wm_4_58 : Cond.instanceMethod y_M_drop ∈ wG := List.mem_filter.mpr ⟨List.mem_append_right _ (List.mem_append_right _ (List.mem_append_right _ (List.mem_append_right _ (List.mem_of_getElem? (i := 58) rfl)))), rfl⟩
theorem wm_4_59 : Cond.code y_M_drop b_M_drop 4 none ∈ wG := List.mem_filter.mpr ⟨List.mem_append_right _ (List.mem_append_right _ (List.mem_append_right _ (List.mem_append_right _ (List.mem_of_getElem? (i := 59) rfl)))), rfl⟩
theorem wm_4_60 : Cond.methodLink "LinearRowsModel" 142 y_M_addRow ∈ wG := List.mem_filter.mpr ⟨List.mem_append_right _ (List.mem_append_right _ (List.mem_append_right _ (List.mem_append_right _ (List.mem_of_getElem? (i := 60) rfl)))), rfl⟩
theorem wm_4_62 : Cond.instanceMethod y_M_addRow ∈ wG := List.mem_filter.mpr ⟨List.mem_append_right _ (List.mem_append_right _ (List.mem_append_right _ (List.mem_append_right _ (List.mem_of_getElem? (i := 62) rfl)))), rfl⟩
theorem wm_4_63 : Cond.code y_M_addRow b_M_addRow 9 none ∈ wG := List.mem_filter.mpr ⟨List.mem_append_right _ (List.mem_append_right _ (List.mem_append_right _ (List.mem_append_right _ (List.mem_of_getElem? (i := 63) rfl)))), rfl⟩
theorem wm_4_64 : Cond.methodLink "LinearRowsLaw" 145 y_M_forget ∈ wG := List.mem_filter.mpr ⟨List.mem_append_right _ (List.mem_append_right _ (List.mem_append_right _ (List.mem_append_right _ (List.mem_of_getElem? (i := 64) rfl)))), rfl⟩
theorem wm_4_65 : Cond.instanceMethod y_M_forget ∈ wG := List.mem_filter.mpr ⟨List.mem_append_right _ (List.mem_append_right _ (List.mem_append_right _ (List.mem_append_right _ (List.mem_of_getElem? (i := 65) rfl)))), rfl⟩
theorem wm_4_66 : Cond.selects "LinearRowsModel" y_M_forget y_M_forget ∈ wG := List.mem_filter.mpr ⟨List.mem_append_right _ (List.mem_append_right _ (List.mem_append_right _ (List.mem_append_right _ (List.mem_of_getElem? (i := 66) rfl)))), rfl⟩
theorem wm_4_67 : Cond.code y_M_forget b_M_forget 3 (some .int) ∈ wG := List.mem_filter.mpr ⟨List.mem_append_right _ (List.mem_append_right _ (List.mem_append_right _ (List.mem_append_right _ (List.mem_of_getElem? (i := 67) rfl)))), rfl⟩
theorem wm_4_68 : Cond.methodLink "LinearRowsLaw" 148 y_M_within ∈ wG := List.mem_filter.mpr ⟨List.mem_append_right _ (List.mem_append_right _ (List.mem_append_right _ (List.mem_append_right _ (List.mem_of_getElem? (i := 68) rfl)))), rfl⟩
theorem wm_4_69 : Cond.instanceMethod y_M_within ∈ wG := List.mem_filter.mpr ⟨List.mem_append_right _ (List.mem_append_right _ (List.mem_append_right _ (List.mem_append_right _ (List.mem_of_getElem? (i := 69) rfl)))), rfl⟩
theorem wm_4_70 : Cond.selects "LinearRowsModel" y_M_within y_M_within ∈ wG := List.mem_filter.mpr ⟨List.mem_append_right _ (List.mem_append_right _ (List.mem_append_right _ (List.mem_append_right _ (List.mem_of_getElem? (i := 70) rfl)))), rfl⟩
theorem wm_4_71 : Cond.code y_M_within b_M_within 10 (some .boolean) ∈ wG := List.mem_filter.mpr ⟨List.mem_append_right _ (List.mem_append_right _ (List.mem_append_right _ (List.mem_append_right _ (List.mem_of_getElem? (i := 71) rfl)))), rfl⟩
theorem wm_4_72 : Cond.methodLink "LinearRowsLaw" 152 y_M_put ∈ wG := List.mem_filter.mpr ⟨List.mem_append_right _ (List.mem_append_right _ (List.mem_append_right _ (List.mem_append_right _ (List.mem_of_getElem? (i := 72) rfl)))), rfl⟩
theorem wm_4_73 : Cond.instanceMethod y_M_put ∈ wG := List.mem_filter.mpr ⟨List.mem_append_right _ (List.mem_append_right _ (List.mem_append_right _ (List.mem_append_right _ (List.mem_of_getElem? (i := 73) rfl)))), rfl⟩
theorem wm_4_74 : Cond.selects "LinearRowsModel" y_M_put y_M_put ∈ wG := List.mem_filter.mpr ⟨List.mem_append_right _ (List.mem_append_right _ (List.mem_append_right _ (List.mem_append_right _ (List.mem_of_getElem? (i := 74) rfl)))), rfl⟩
theorem wm_4_75 : Cond.code y_M_put b_M_put 6 (some .long) ∈ wG := List.mem_filter.mpr ⟨List.mem_append_right _ (List.mem_append_right _ (List.mem_append_right _ (List.mem_append_right _ (List.mem_of_getElem? (i := 75) rfl)))), rfl⟩
theorem wm_4_76 : Cond.methodLink "LinearRowsLaw" 156 y_M_point ∈ wG := List.mem_filter.mpr ⟨List.mem_append_right _ (List.mem_append_right _ (List.mem_append_right _ (List.mem_append_right _ (List.mem_of_getElem? (i := 76) rfl)))), rfl⟩
theorem wm_4_77 : Cond.instanceMethod y_M_point ∈ wG := List.mem_filter.mpr ⟨List.mem_append_right _ (List.mem_append_right _ (List.mem_append_right _ (List.mem_append_right _ (List.mem_of_getElem? (i := 77) rfl)))), rfl⟩
theorem wm_4_78 : Cond.selects "LinearRowsModel" y_M_point y_M_point ∈ wG := List.mem_filter.mpr ⟨List.mem_append_right _ (List.mem_append_right _ (List.mem_append_right _ (List.mem_append_right _ (List.mem_of_getElem? (i := 78) rfl)))), rfl⟩
theorem wm_4_79 : Cond.code y_M_point b_M_point 2 (some .long) ∈ wG := List.mem_filter.mpr ⟨List.mem_append_right _ (List.mem_append_right _ (List.mem_append_right _ (List.mem_append_right _ (List.mem_of_getElem? (i := 79) rfl)))), rfl⟩
theorem wm_4_80 : Cond.methodLink "LinearRowsLaw" 159 y_M_has ∈ wG := List.mem_filter.mpr ⟨List.mem_append_right _ (List.mem_append_right _ (List.mem_append_right _ (List.mem_append_right _ (List.mem_of_getElem? (i := 80) rfl)))), rfl⟩
theorem wm_4_81 : Cond.instanceMethod y_M_has ∈ wG := List.mem_filter.mpr ⟨List.mem_append_right _ (List.mem_append_right _ (List.mem_append_right _ (List.mem_append_right _ (List.mem_of_getElem? (i := 81) rfl)))), rfl⟩
theorem wm_4_82 : Cond.selects "LinearRowsModel" y_M_has y_M_has ∈ wG := List.mem_filter.mpr ⟨List.mem_append_right _ (List.mem_append_right _ (List.mem_append_right _ (List.mem_append_right _ (List.mem_of_getElem? (i := 82) rfl)))), rfl⟩
theorem wm_4_83 : Cond.code y_M_has b_M_has 7 (some .boolean) ∈ wG := List.mem_filter.mpr ⟨List.mem_append_right _ (List.mem_append_right _ (List.mem_append_right _ (List.mem_append_right _ (List.mem_of_getElem? (i := 83) rfl)))), rfl⟩
theorem wm_4_84 : Cond.methodLink "LinearRowsModel" 146 y_M_valueAt ∈ wG := List.mem_filter.mpr ⟨List.mem_append_right _ (List.mem_append_right _ (List.mem_append_right _ (List.mem_append_right _ (List.mem_of_getElem? (i := 84) rfl)))), rfl⟩
theorem wm_4_86 : Cond.instanceMethod y_M_valueAt ∈ wG := List.mem_filter.mpr ⟨List.mem_append_right _ (List.mem_append_right _ (List.mem_append_right _ (List.mem_append_right _ (List.mem_of_getElem? (i := 86) rfl)))), rfl⟩
theorem wm_4_87 : Cond.code y_M_valueAt b_M_valueAt 2 (some .long) ∈ wG := List.mem_filter.mpr ⟨List.mem_append_right _ (List.mem_append_right _ (List.mem_append_right _ (List.mem_append_right _ (List.mem_of_getElem? (i := 87) rfl)))), rfl⟩
theorem wm_4_88 : Cond.methodLink "LinearRowsLaw" 162 y_M_sample ∈ wG := List.mem_filter.mpr ⟨List.mem_append_right _ (List.mem_append_right _ (List.mem_append_right _ (List.mem_append_right _ (List.mem_of_getElem? (i := 88) rfl)))), rfl⟩
theorem wm_4_89 : Cond.instanceMethod y_M_sample ∈ wG := List.mem_filter.mpr ⟨List.mem_append_right _ (List.mem_append_right _ (List.mem_append_right _ (List.mem_append_right _ (List.mem_of_getElem? (i := 89) rfl)))), rfl⟩
theorem wm_4_90 : Cond.selects "LinearRowsModel" y_M_sample y_M_sample ∈ wG := List.mem_filter.mpr ⟨List.mem_append_right _ (List.mem_append_right _ (List.mem_append_right _ (List.mem_append_right _ (List.mem_of_getElem? (i := 90) rfl)))), rfl⟩
theorem wm_4_91 : Cond.code y_M_sample b_M_sample 8 (some .boolean) ∈ wG := List.mem_filter.mpr ⟨List.mem_append_right _ (List.mem_append_right _ (List.mem_append_right _ (List.mem_append_right _ (List.mem_of_getElem? (i := 91) rfl)))), rfl⟩
theorem wm_4_92 : Cond.methodLink "LinearRowsLaw" 165 y_M_needed ∈ wG := List.mem_filter.mpr ⟨List.mem_append_right _ (List.mem_append_right _ (List.mem_append_right _ (List.mem_append_right _ (List.mem_of_getElem? (i := 92) rfl)))), rfl⟩
theorem wm_4_93 : Cond.instanceMethod y_M_needed ∈ wG := List.mem_filter.mpr ⟨List.mem_append_right _ (List.mem_append_right _ (List.mem_append_right _ (List.mem_append_right _ (List.mem_of_getElem? (i := 93) rfl)))), rfl⟩
theorem wm_4_94 : Cond.selects "LinearRowsModel" y_M_needed y_M_needed ∈ wG := List.mem_filter.mpr ⟨List.mem_append_right _ (List.mem_append_right _ (List.mem_append_right _ (List.mem_append_right _ (List.mem_of_getElem? (i := 94) rfl)))), rfl⟩
theorem wm_4_95 : Cond.code y_M_needed b_M_needed 4 (some .int) ∈ wG := List.mem_filter.mpr ⟨List.mem_append_right _ (List.mem_append_right _ (List.mem_append_right _ (List.mem_append_right _ (List.mem_of_getElem? (i := 95) rfl)))), rfl⟩
theorem wm_4_96 : Cond.constantLong "LinearRowsModel" 153 (-1) ∈ wG := List.mem_filter.mpr ⟨List.mem_append_right _ (List.mem_append_right _ (List.mem_append_right _ (List.mem_append_right _ (List.mem_of_getElem? (i := 96) rfl)))), rfl⟩
theorem wm_4_97 : Cond.methodLink "LinearRowsModel" 155 y_M_termOf ∈ wG := List.mem_filter.mpr ⟨List.mem_append_right _ (List.mem_append_right _ (List.mem_append_right _ (List.mem_append_right _ (List.mem_of_getElem? (i := 97) rfl)))), rfl⟩
theorem wm_4_98 : Cond.static y_M_termOf ∈ wG := List.mem_filter.mpr ⟨List.mem_append_right _ (List.mem_append_right _ (List.mem_append_right _ (List.mem_append_right _ (List.mem_of_getElem? (i := 98) rfl)))), rfl⟩
theorem wm_4_99 : Cond.code y_M_termOf b_M_termOf 1 (some .int) ∈ wG := List.mem_filter.mpr ⟨List.mem_append_right _ (List.mem_append_right _ (List.mem_append_right _ (List.mem_append_right _ (List.mem_of_getElem? (i := 99) rfl)))), rfl⟩
theorem wm_4_100 : Cond.methodLink "LinearRowsModel" 158 y_M_listRow ∈ wG := List.mem_filter.mpr ⟨List.mem_append_right _ (List.mem_append_right _ (List.mem_append_right _ (List.mem_append_right _ (List.mem_of_getElem? (i := 100) rfl)))), rfl⟩
theorem wm_4_102 : Cond.instanceMethod y_M_listRow ∈ wG := List.mem_filter.mpr ⟨List.mem_append_right _ (List.mem_append_right _ (List.mem_append_right _ (List.mem_append_right _ (List.mem_of_getElem? (i := 102) rfl)))), rfl⟩
theorem wm_4_103 : Cond.code y_M_listRow b_M_listRow 5 none ∈ wG := List.mem_filter.mpr ⟨List.mem_append_right _ (List.mem_append_right _ (List.mem_append_right _ (List.mem_append_right _ (List.mem_of_getElem? (i := 103) rfl)))), rfl⟩
theorem wm_4_104 : Cond.methodLink "LinearRowsLaw" 168 y_M_needs ∈ wG := List.mem_filter.mpr ⟨List.mem_append_right _ (List.mem_append_right _ (List.mem_append_right _ (List.mem_append_right _ (List.mem_of_getElem? (i := 104) rfl)))), rfl⟩
theorem wm_4_105 : Cond.instanceMethod y_M_needs ∈ wG := List.mem_filter.mpr ⟨List.mem_append_right _ (List.mem_append_right _ (List.mem_append_right _ (List.mem_append_right _ (List.mem_of_getElem? (i := 105) rfl)))), rfl⟩
theorem wm_4_106 : Cond.selects "LinearRowsModel" y_M_needs y_M_needs ∈ wG := List.mem_filter.mpr ⟨List.mem_append_right _ (List.mem_append_right _ (List.mem_append_right _ (List.mem_append_right _ (List.mem_of_getElem? (i := 106) rfl)))), rfl⟩
theorem wm_4_107 : Cond.code y_M_needs b_M_needs 3 (some .long) ∈ wG := List.mem_filter.mpr ⟨List.mem_append_right _ (List.mem_append_right _ (List.mem_append_right _ (List.mem_append_right _ (List.mem_of_getElem? (i := 107) rfl)))), rfl⟩
theorem wm_4_108 : Cond.methodLink "LinearRowsLaw" 171 y_M_fits ∈ wG := List.mem_filter.mpr ⟨List.mem_append_right _ (List.mem_append_right _ (List.mem_append_right _ (List.mem_append_right _ (List.mem_of_getElem? (i := 108) rfl)))), rfl⟩
theorem wm_4_109 : Cond.instanceMethod y_M_fits ∈ wG := List.mem_filter.mpr ⟨List.mem_append_right _ (List.mem_append_right _ (List.mem_append_right _ (List.mem_append_right _ (List.mem_of_getElem? (i := 109) rfl)))), rfl⟩
theorem wm_4_110 : Cond.selects "LinearRowsModel" y_M_fits y_M_fits ∈ wG := List.mem_filter.mpr ⟨List.mem_append_right _ (List.mem_append_right _ (List.mem_append_right _ (List.mem_append_right _ (List.mem_of_getElem? (i := 110) rfl)))), rfl⟩
theorem wm_4_111 : Cond.code y_M_fits b_M_fits 6 (some .boolean) ∈ wG := List.mem_filter.mpr ⟨List.mem_append_right _ (List.mem_append_right _ (List.mem_append_right _ (List.mem_append_right _ (List.mem_of_getElem? (i := 111) rfl)))), rfl⟩
theorem wm_4_112 : Cond.methodLink "LinearRowsLaw" 174 y_M_array ∈ wG := List.mem_filter.mpr ⟨List.mem_append_right _ (List.mem_append_right _ (List.mem_append_right _ (List.mem_append_right _ (List.mem_of_getElem? (i := 112) rfl)))), rfl⟩
theorem wm_4_113 : Cond.instanceMethod y_M_array ∈ wG := List.mem_filter.mpr ⟨List.mem_append_right _ (List.mem_append_right _ (List.mem_append_right _ (List.mem_append_right _ (List.mem_of_getElem? (i := 113) rfl)))), rfl⟩
theorem wm_4_114 : Cond.selects "LinearRowsModel" y_M_array y_M_array ∈ wG := List.mem_filter.mpr ⟨List.mem_append_right _ (List.mem_append_right _ (List.mem_append_right _ (List.mem_append_right _ (List.mem_of_getElem? (i := 114) rfl)))), rfl⟩
theorem wm_4_115 : Cond.code y_M_array b_M_array 4 (some .int) ∈ wG := List.mem_filter.mpr ⟨List.mem_append_right _ (List.mem_append_right _ (List.mem_append_right _ (List.mem_append_right _ (List.mem_of_getElem? (i := 115) rfl)))), rfl⟩
theorem wm_4_116 : Cond.methodLink "LinearRowsLaw" 177 y_M_told ∈ wG := List.mem_filter.mpr ⟨List.mem_append_right _ (List.mem_append_right _ (List.mem_append_right _ (List.mem_append_right _ (List.mem_of_getElem? (i := 116) rfl)))), rfl⟩
theorem wm_4_117 : Cond.instanceMethod y_M_told ∈ wG := List.mem_filter.mpr ⟨List.mem_append_right _ (List.mem_append_right _ (List.mem_append_right _ (List.mem_append_right _ (List.mem_of_getElem? (i := 117) rfl)))), rfl⟩
theorem wm_4_118 : Cond.selects "LinearRowsModel" y_M_told y_M_told ∈ wG := List.mem_filter.mpr ⟨List.mem_append_right _ (List.mem_append_right _ (List.mem_append_right _ (List.mem_append_right _ (List.mem_of_getElem? (i := 118) rfl)))), rfl⟩
theorem wm_4_119 : Cond.code y_M_told b_M_told 5 (some .int) ∈ wG := List.mem_filter.mpr ⟨List.mem_append_right _ (List.mem_append_right _ (List.mem_append_right _ (List.mem_append_right _ (List.mem_of_getElem? (i := 119) rfl)))), rfl⟩
theorem wm_4_120 : Cond.constantLong "LinearRowsLaw" 110 4294967295 ∈ wG := List.mem_filter.mpr ⟨List.mem_append_right _ (List.mem_append_right _ (List.mem_append_right _ (List.mem_append_right _ (List.mem_of_getElem? (i := 120) rfl)))), rfl⟩
theorem ws_X_checkTerm : Cond.selects R_X y_X_checkTerm y_X_checkTerm ∈ wG := List.mem_filter.mpr ⟨List.mem_append_left _ (List.mem_of_getElem? (i := 1) rfl), rfl⟩
theorem ws_S_closeKeptRows : Cond.selects R_S y_S_closeKeptRows y_S_closeKeptRows ∈ wG := List.mem_filter.mpr ⟨List.mem_append_left _ (List.mem_of_getElem? (i := 2) rfl), rfl⟩
theorem ws_T_chainThrough : Cond.selects R_T y_T_chainThrough y_T_chainThrough ∈ wG := List.mem_filter.mpr ⟨List.mem_append_left _ (List.mem_of_getElem? (i := 3) rfl), rfl⟩
theorem ws_T_hasOppositesBelowZero : Cond.selects R_T y_T_hasOppositesBelowZero y_T_hasOppositesBelowZero ∈ wG := List.mem_filter.mpr ⟨List.mem_append_left _ (List.mem_of_getElem? (i := 4) rfl), rfl⟩
theorem ws_T_cutToEven : Cond.selects R_T y_T_cutToEven y_T_cutToEven ∈ wG := List.mem_filter.mpr ⟨List.mem_append_left _ (List.mem_of_getElem? (i := 5) rfl), rfl⟩
theorem ws_T_hasTwicesThatContradict : Cond.selects R_T y_T_hasTwicesThatContradict y_T_hasTwicesThatContradict ∈ wG := List.mem_filter.mpr ⟨List.mem_append_left _ (List.mem_of_getElem? (i := 6) rfl), rfl⟩
theorem ws_T_addHalves : Cond.selects R_T y_T_addHalves y_T_addHalves ∈ wG := List.mem_filter.mpr ⟨List.mem_append_left _ (List.mem_of_getElem? (i := 7) rfl), rfl⟩
theorem ws_X_takeMade : Cond.selects R_X y_X_takeMade y_X_takeMade ∈ wG := List.mem_filter.mpr ⟨List.mem_append_left _ (List.mem_of_getElem? (i := 8) rfl), rfl⟩
theorem ws_S_keepBounds : Cond.selects R_S y_S_keepBounds y_S_keepBounds ∈ wG := List.mem_filter.mpr ⟨List.mem_append_left _ (List.mem_of_getElem? (i := 9) rfl), rfl⟩
theorem ws_X_checkName : Cond.selects R_X y_X_checkName y_X_checkName ∈ wG := List.mem_filter.mpr ⟨List.mem_append_left _ (List.mem_of_getElem? (i := 10) rfl), rfl⟩
theorem ws_X_numberAt : Cond.selects R_X y_X_numberAt y_X_numberAt ∈ wG := List.mem_filter.mpr ⟨List.mem_append_left _ (List.mem_of_getElem? (i := 11) rfl), rfl⟩
theorem ws_X_sampleNumber : Cond.selects R_X y_X_sampleNumber y_X_sampleNumber ∈ wG := List.mem_filter.mpr ⟨List.mem_append_left _ (List.mem_of_getElem? (i := 12) rfl), rfl⟩
theorem ws_X_greatestBeside : Cond.selects R_X y_X_greatestBeside y_X_greatestBeside ∈ wG := List.mem_filter.mpr ⟨List.mem_append_left _ (List.mem_of_getElem? (i := 13) rfl), rfl⟩
theorem ws_X_tellRow : Cond.selects R_X y_X_tellRow y_X_tellRow ∈ wG := List.mem_filter.mpr ⟨List.mem_append_left _ (List.mem_of_getElem? (i := 14) rfl), rfl⟩
theorem ws_X_leaveOutPairs : Cond.selects R_X y_X_leaveOutPairs y_X_leaveOutPairs ∈ wG := List.mem_filter.mpr ⟨List.mem_append_left _ (List.mem_of_getElem? (i := 15) rfl), rfl⟩
theorem ws_X_leaveOutUnlessNeeded : Cond.selects R_X y_X_leaveOutUnlessNeeded y_X_leaveOutUnlessNeeded ∈ wG := List.mem_filter.mpr ⟨List.mem_append_left _ (List.mem_of_getElem? (i := 16) rfl), rfl⟩
theorem ws_X_leaveOutSingles : Cond.selects R_X y_X_leaveOutSingles y_X_leaveOutSingles ∈ wG := List.mem_filter.mpr ⟨List.mem_append_left _ (List.mem_of_getElem? (i := 17) rfl), rfl⟩
theorem ws_X_tellLeftRows : Cond.selects R_X y_X_tellLeftRows y_X_tellLeftRows ∈ wG := List.mem_filter.mpr ⟨List.mem_append_left _ (List.mem_of_getElem? (i := 18) rfl), rfl⟩
theorem ws_X_countEmpty : Cond.selects R_X y_X_countEmpty y_X_countEmpty ∈ wG := List.mem_filter.mpr ⟨List.mem_append_left _ (List.mem_of_getElem? (i := 19) rfl), rfl⟩
theorem ws_M_isShape : Cond.selects R_M y_M_isShape y_M_isShape ∈ wG := List.mem_filter.mpr ⟨List.mem_append_left _ (List.mem_of_getElem? (i := 20) rfl), rfl⟩
theorem ws_M_none : Cond.selects R_M y_M_none y_M_none ∈ wG := List.mem_filter.mpr ⟨List.mem_append_left _ (List.mem_of_getElem? (i := 21) rfl), rfl⟩
theorem ws_M_isTerm : Cond.selects R_M y_M_isTerm y_M_isTerm ∈ wG := List.mem_filter.mpr ⟨List.mem_append_left _ (List.mem_of_getElem? (i := 22) rfl), rfl⟩
theorem ws_M_closeShape : Cond.selects R_M y_M_closeShape y_M_closeShape ∈ wG := List.mem_filter.mpr ⟨List.mem_append_left _ (List.mem_of_getElem? (i := 23) rfl), rfl⟩
theorem ws_M_loadRows : Cond.selects R_M y_M_loadRows y_M_loadRows ∈ wG := List.mem_filter.mpr ⟨List.mem_append_left _ (List.mem_of_getElem? (i := 24) rfl), rfl⟩
theorem ws_M_close : Cond.selects R_M y_M_close y_M_close ∈ wG := List.mem_filter.mpr ⟨List.mem_append_left _ (List.mem_of_getElem? (i := 25) rfl), rfl⟩
theorem ws_M_isFar : Cond.selects R_M y_M_isFar y_M_isFar ∈ wG := List.mem_filter.mpr ⟨List.mem_append_left _ (List.mem_of_getElem? (i := 26) rfl), rfl⟩
theorem ws_M_boundOf : Cond.selects R_M y_M_boundOf y_M_boundOf ∈ wG := List.mem_filter.mpr ⟨List.mem_append_left _ (List.mem_of_getElem? (i := 27) rfl), rfl⟩
theorem ws_M_areShapes : Cond.selects R_M y_M_areShapes y_M_areShapes ∈ wG := List.mem_filter.mpr ⟨List.mem_append_left _ (List.mem_of_getElem? (i := 28) rfl), rfl⟩
theorem ws_M_keepClosed : Cond.selects R_M y_M_keepClosed y_M_keepClosed ∈ wG := List.mem_filter.mpr ⟨List.mem_append_left _ (List.mem_of_getElem? (i := 29) rfl), rfl⟩
theorem ws_M_copyTable : Cond.selects R_M y_M_copyTable y_M_copyTable ∈ wG := List.mem_filter.mpr ⟨List.mem_append_left _ (List.mem_of_getElem? (i := 30) rfl), rfl⟩
theorem ws_M_copyRows : Cond.selects R_M y_M_copyRows y_M_copyRows ∈ wG := List.mem_filter.mpr ⟨List.mem_append_left _ (List.mem_of_getElem? (i := 31) rfl), rfl⟩
theorem ws_M_closeMade : Cond.selects R_M y_M_closeMade y_M_closeMade ∈ wG := List.mem_filter.mpr ⟨List.mem_append_left _ (List.mem_of_getElem? (i := 32) rfl), rfl⟩
theorem ws_M_keepMade : Cond.selects R_M y_M_keepMade y_M_keepMade ∈ wG := List.mem_filter.mpr ⟨List.mem_append_left _ (List.mem_of_getElem? (i := 33) rfl), rfl⟩
theorem ws_M_isName : Cond.selects R_M y_M_isName y_M_isName ∈ wG := List.mem_filter.mpr ⟨List.mem_append_left _ (List.mem_of_getElem? (i := 34) rfl), rfl⟩
theorem ws_M_turn : Cond.selects R_M y_M_turn y_M_turn ∈ wG := List.mem_filter.mpr ⟨List.mem_append_left _ (List.mem_of_getElem? (i := 35) rfl), rfl⟩
theorem ws_M_drop : Cond.selects R_M y_M_drop y_M_drop ∈ wG := List.mem_filter.mpr ⟨List.mem_append_left _ (List.mem_of_getElem? (i := 36) rfl), rfl⟩
theorem ws_M_addRow : Cond.selects R_M y_M_addRow y_M_addRow ∈ wG := List.mem_filter.mpr ⟨List.mem_append_left _ (List.mem_of_getElem? (i := 37) rfl), rfl⟩
theorem ws_M_valueAt : Cond.selects R_M y_M_valueAt y_M_valueAt ∈ wG := List.mem_filter.mpr ⟨List.mem_append_left _ (List.mem_of_getElem? (i := 38) rfl), rfl⟩
theorem ws_M_listRow : Cond.selects R_M y_M_listRow y_M_listRow ∈ wG := List.mem_filter.mpr ⟨List.mem_append_left _ (List.mem_of_getElem? (i := 39) rfl), rfl⟩
theorem wu_T : ∀ w ∈ u_ws R_T F_T 2, w ∈ wG := by
  show ∀ w ∈ [u_lay R_T F_T 0, u_lay R_T F_T 1], w ∈ wG
  exact List.forall_mem_cons.mpr ⟨wm_1_47, List.forall_mem_cons.mpr ⟨wm_1_49, fun _ h => absurd h List.not_mem_nil⟩⟩
theorem wu_S : ∀ w ∈ u_ws R_S F_S 4, w ∈ wG := by
  show ∀ w ∈ [u_lay R_S F_S 0, u_lay R_S F_S 1, u_lay R_S F_S 2, u_lay R_S F_S 3], w ∈ wG
  exact List.forall_mem_cons.mpr ⟨wm_1_64, List.forall_mem_cons.mpr ⟨wm_1_66, List.forall_mem_cons.mpr ⟨wm_1_68, List.forall_mem_cons.mpr ⟨wm_1_70, fun _ h => absurd h List.not_mem_nil⟩⟩⟩⟩
theorem wu_X : ∀ w ∈ u_ws R_X F_X 9, w ∈ wG := by
  show ∀ w ∈ [u_lay R_X F_X 0, u_lay R_X F_X 1, u_lay R_X F_X 2, u_lay R_X F_X 3, u_lay R_X F_X 4, u_lay R_X F_X 5, u_lay R_X F_X 6, u_lay R_X F_X 7, u_lay R_X F_X 8], w ∈ wG
  exact List.forall_mem_cons.mpr ⟨wm_1_84, List.forall_mem_cons.mpr ⟨wm_1_86, List.forall_mem_cons.mpr ⟨wm_1_88, List.forall_mem_cons.mpr ⟨wm_1_90, List.forall_mem_cons.mpr ⟨wm_1_92, List.forall_mem_cons.mpr ⟨wm_1_94, List.forall_mem_cons.mpr ⟨wm_1_96, List.forall_mem_cons.mpr ⟨wm_1_98, List.forall_mem_cons.mpr ⟨wm_1_100, fun _ h => absurd h List.not_mem_nil⟩⟩⟩⟩⟩⟩⟩⟩⟩
theorem wu_M : ∀ w ∈ u_ws R_M F_M 13, w ∈ wG := by
  show ∀ w ∈ [u_lay R_M F_M 0, u_lay R_M F_M 1, u_lay R_M F_M 2, u_lay R_M F_M 3, u_lay R_M F_M 4, u_lay R_M F_M 5, u_lay R_M F_M 6, u_lay R_M F_M 7, u_lay R_M F_M 8, u_lay R_M F_M 9, u_lay R_M F_M 10, u_lay R_M F_M 11, u_lay R_M F_M 12], w ∈ wG
  exact List.forall_mem_cons.mpr ⟨wm_3_138, List.forall_mem_cons.mpr ⟨wm_3_140, List.forall_mem_cons.mpr ⟨wm_3_142, List.forall_mem_cons.mpr ⟨wm_3_144, List.forall_mem_cons.mpr ⟨wm_3_146, List.forall_mem_cons.mpr ⟨wm_3_148, List.forall_mem_cons.mpr ⟨wm_3_150, List.forall_mem_cons.mpr ⟨wm_3_152, List.forall_mem_cons.mpr ⟨wm_3_154, List.forall_mem_cons.mpr ⟨wm_3_156, List.forall_mem_cons.mpr ⟨wm_3_158, List.forall_mem_cons.mpr ⟨wm_3_160, List.forall_mem_cons.mpr ⟨wm_3_162, fun _ h => absurd h List.not_mem_nil⟩⟩⟩⟩⟩⟩⟩⟩⟩⟩⟩⟩⟩
end
section
/-! WORLDS AS LISTS WITH NAMED PLACES: a method is given its caller's whole world ws and the places of its cells; its end says what the list is then. -/
theorem gw_eq {α : Type} {ws : List α} {p : Nat} {x y : α} (h : ws[p]? = some x) : (ws.set p y)[p]? = some y := by
  have := (List.getElem?_eq_some_iff.mp h).1
  simp [List.getElem?_set, this]
theorem gw_ne {α : Type} {ws : List α} {p q : Nat} {x y : α} (h : ws[p]? = some x) (hn : q ≠ p) : (ws.set q y)[p]? = some x := by
  simp [List.getElem?_set, hn, h]
theorem gw_neE {α : Type} {ws : List α} {p q : Nat} {y : α} (hn : q ≠ p) : (ws.set q y)[p]? = ws[p]? := by
  simp [List.getElem?_set, hn]
theorem gw_ap {α : Type} {ws l : List α} {p : Nat} {x : α} (h : ws[p]? = some x) : (ws ++ l)[p]? = some x := by
  have := (List.getElem?_eq_some_iff.mp h).1
  rw [List.getElem?_append_left this]
  exact h
theorem gw_la {α : Type} {ws : List α} {x : α} {p : Nat} (h : ws.length = p) : (ws ++ [x])[p]? = some x := by
  subst h
  simp
theorem gw_ss {α : Type} {ws : List α} {p : Nat} {x y : α} : (ws.set p x).set p y = ws.set p y := by
  simp [List.set_set]
theorem gw_id {α : Type} {ws : List α} {p : Nat} {x : α} (h : ws[p]? = some x) : ws.set p x = ws := by
  apply List.ext_getElem?
  intro q
  by_cases hq : p = q
  · subst hq; rw [gw_eq h, h]
  · rw [gw_neE hq]
abbrev gw_Pc (D : va_G) (cl : List vw_C) (tys : List (ClassId × FieldType)) (av : List Value) (ws : va_W) (sz : Nat) : Array Value → State → Prop := va_Pc av (fun U => U.heap.size = sz ∧ va_P D cl ws U.heap ∧ va_K D cl tys U ∧ va_D (fun _ => True) ws)
abbrev gw_B (D : va_G) (cl : List vw_C) (tys : List (ClassId × FieldType)) (ws : va_W) (sz : Nat) : va_W → State → Prop := fun w t => va_P D cl w t.heap ∧ va_K D cl tys t ∧ va_D (va_A ws sz) w
abbrev gw_MI (l : Launch) (y : MethodName) (Wd : List Cond) (rm : Room) (D : va_G) (cl : List vw_C) (tys : List (ClassId × FieldType)) (av : List Value) (ws : va_W) (sz : Nat) (post : Int32 → va_W → Prop) (mc ms : Nat) : Prop := Met l y Wd rm (gw_Pc D cl tys av ws sz) (va_Qi post (gw_B D cl tys ws sz) (va_A ws sz)) mc ms (va_A ws sz)
abbrev gw_ML (l : Launch) (y : MethodName) (Wd : List Cond) (rm : Room) (D : va_G) (cl : List vw_C) (tys : List (ClassId × FieldType)) (av : List Value) (ws : va_W) (sz : Nat) (post : Int64 → va_W → Prop) (mc ms : Nat) : Prop := Met l y Wd rm (gw_Pc D cl tys av ws sz) (va_Ql post (gw_B D cl tys ws sz) (va_A ws sz)) mc ms (va_A ws sz)
abbrev gw_MV (l : Launch) (y : MethodName) (Wd : List Cond) (rm : Room) (D : va_G) (cl : List vw_C) (tys : List (ClassId × FieldType)) (av : List Value) (ws : va_W) (sz : Nat) (post : va_W → Prop) (mc ms : Nat) : Prop := Met l y Wd rm (gw_Pc D cl tys av ws sz) (va_Qv post (gw_B D cl tys ws sz) (va_A ws sz)) mc ms (va_A ws sz)
section GW
variable {p : Program} {l : Launch} {e : Env} {R : Room} {s : State} {m : MethodId} {args : Array Value} {below : List Frame} {meth : Method} {c : Code} {H : Heap} {locs : List Loc} {cells slots : Nat} {Q : State → Prop}
variable {D : va_G} {cl : List vw_C} {tys : List (ClassId × FieldType)} {A : Nat → Prop} {ws : va_W} {H0 : Heap} {mc ms : Nat} {a : Array Value} {pc : Nat} {ls : Array Slot} {rest st0 : List Value}
theorem gw_fr (hD : va_D A ws) (hS : va_S A H0 H locs) (hA : ∀ q, H0.size ≤ q → A q) : ∀ q, va_A ws H.size q → A q := fun q h => by
  rcases h with ⟨k, e, h⟩ | h
  · exact hD.2 k _ h
  · exact hA q (Nat.le_trans hS.1 h)
theorem gw_blind {av : List Value} {sz : Nat} : FrameBlind (gw_Pc D cl tys av ws sz) := fun a U g mk q => by
  obtain ⟨q0, q1, qP, qK, qD⟩ := q
  exact ⟨q0, q1, qP, va_K.moved (u := U) (U := U.calling g mk a) (Vm.Alike.refl U.vm) qK, qD⟩
theorem gw_pre {av : List Value} (hK : va_K D cl tys s) (hP : va_P D cl ws H) (hD : va_D A ws) : ∀ U : State, U.heap = H → s.WarmedH U.vm → gw_Pc D cl tys av ws H.size av.toArray U := fun U hU hW =>
  ⟨rfl, by rw [hU], by rw [hU]; exact hP, va_K.moved hW.alike hK, hD.weaken (fun _ _ _ _ => trivial)⟩
theorem gw_preS {av : List Value} (hK : va_K D cl tys s) (hP : va_P D cl ws H) (hD : va_D A ws) : PreS s H (gw_Pc D cl tys av ws H.size) av := ⟨gw_blind, gw_pre hK hP hD⟩
theorem gw_preV {b : Nat} {As : List Value} {ci q0 : Nat} {q : vw_C} {fs : List Value} (hK : va_K D cl tys s) (hP : va_P D cl ws H) (hD : va_D A ws) (hc : cl[ci]? = some q) (he : ws[q0]? = some (b, .inr (ci, fs))) : PreV s H q.1 b (gw_Pc D cl tys (.ref b :: As) ws H.size) As := ⟨gw_blind, va_recv hK hP hc he, gw_pre hK hP hD⟩
theorem gw_ci {post : Int32 → va_W → Prop} (hr : va_Run p l e R s m args below meth c H locs cells slots mc ms (F0 m pc ls st0) rest (va_Qi post (gw_B D cl tys ws H.size) (va_A ws H.size) a) (va_A ws H.size)) (hD : va_D A ws) (hS : va_S A H0 H locs) (hA : ∀ q, H0.size ≤ q → A q)
    (kk : ∀ (r : Int32) (w : va_W) (H1 : Heap) (locs1 : List Loc), post r w → va_P D cl w H1 → va_D A w → va_S A H0 H1 locs1 → W p l e R s m args below meth c H1 locs1 (cells + mc) (slots + ms) Q (F0 m (pc + 3) ls (.int r :: rest))) : W p l e R s m args below meth c H locs cells slots Q (F0 m pc ls st0) := by
  have hF := gw_fr hD hS hA
  refine va_calli hr hS (fun q _ h => hF q h) hF (fun r u t H1 locs1 ht _ hw hB _ _ hS1 => ?_)
  obtain ⟨hP1, _, hD1⟩ := hB
  rw [ht] at hP1
  exact kk r u H1 locs1 hw hP1 (hD1.weaken (fun _ _ _ h => hF _ h)) hS1
theorem gw_cl {post : Int64 → va_W → Prop} (hr : va_Run p l e R s m args below meth c H locs cells slots mc ms (F0 m pc ls st0) rest (va_Ql post (gw_B D cl tys ws H.size) (va_A ws H.size) a) (va_A ws H.size)) (hD : va_D A ws) (hS : va_S A H0 H locs) (hA : ∀ q, H0.size ≤ q → A q)
    (kk : ∀ (r : Int64) (w : va_W) (H1 : Heap) (locs1 : List Loc), post r w → va_P D cl w H1 → va_D A w → va_S A H0 H1 locs1 → W p l e R s m args below meth c H1 locs1 (cells + mc) (slots + ms) Q (F0 m (pc + 3) ls (.long r :: rest))) : W p l e R s m args below meth c H locs cells slots Q (F0 m pc ls st0) := by
  have hF := gw_fr hD hS hA
  refine va_calll hr hS (fun q _ h => hF q h) hF (fun r u t H1 locs1 ht _ hw hB _ _ hS1 => ?_)
  obtain ⟨hP1, _, hD1⟩ := hB
  rw [ht] at hP1
  exact kk r u H1 locs1 hw hP1 (hD1.weaken (fun _ _ _ h => hF _ h)) hS1
theorem gw_cv {post : va_W → Prop} (hr : va_Run p l e R s m args below meth c H locs cells slots mc ms (F0 m pc ls st0) rest (va_Qv post (gw_B D cl tys ws H.size) (va_A ws H.size) a) (va_A ws H.size)) (hD : va_D A ws) (hS : va_S A H0 H locs) (hA : ∀ q, H0.size ≤ q → A q)
    (kk : ∀ (w : va_W) (H1 : Heap) (locs1 : List Loc), post w → va_P D cl w H1 → va_D A w → va_S A H0 H1 locs1 → W p l e R s m args below meth c H1 locs1 (cells + mc) (slots + ms) Q (F0 m (pc + 3) ls rest)) : W p l e R s m args below meth c H locs cells slots Q (F0 m pc ls st0) := by
  have hF := gw_fr hD hS hA
  refine va_callv hr hS (fun q _ h => hF q h) hF (fun u t H1 locs1 ht _ hw hB _ _ hS1 => ?_)
  obtain ⟨hP1, _, hD1⟩ := hB
  rw [ht] at hP1
  exact kk u H1 locs1 hw hP1 (hD1.weaken (fun _ _ _ h => hF _ h)) hS1
end GW
theorem gw_same {D : va_G} {cl : List vw_C} {tys : List (ClassId × FieldType)} {s : State} {t : Nat} {cJ cA : ClassId} {ty : FieldType} (hK : va_K D cl tys s) (ht : tys[t]? = some (cJ, ty)) (h : va_K D cl (tys ++ [(cA, ty)]) s) : cA = cJ := by
  have h1 := (hK.2 t _ ht).2
  have h2 := (h.2 tys.length (cA, ty) (by simp)).2
  cases ty <;> first | exact Option.some.inj (h2.symm.trans h1) | (obtain ⟨_, _, _, _, _, e1⟩ := h1; obtain ⟨_, _, _, _, _, e2⟩ := h2; exact Option.some.inj (e2.symm.trans e1))
end
section
/-! BOUNDS: none is ENDLESS. A matrix X i j: what the terms at the places i and j together do not pass. The closed matrix below a given one is unique. -/
def lr_le (a b : Option Int) : Prop := match a, b with
  | _, none => True
  | none, some _ => False
  | some x, some y => x ≤ y
def lr_ad (a b : Option Int) : Option Int := match a, b with
  | some x, some y => some (x + y)
  | _, _ => none
def lr_mn (a b : Option Int) : Option Int := match a, b with
  | none, b => b
  | some x, none => some x
  | some x, some y => some (if y < x then y else x)
/-- half, cut downwards -/
def lr_hf (a : Option Int) : Option Int := match a with
  | none => none
  | some x => some (x / 2)
def lr_db (a : Option Int) : Option Int := match a with
  | none => none
  | some x => some (2 * x)
theorem lr_le_refl (a : Option Int) : lr_le a a := by
  cases a <;> simp [lr_le]
theorem lr_le_none (a : Option Int) : lr_le a none := by
  cases a <;> simp [lr_le]
theorem lr_le_trans {a b c : Option Int} (h : lr_le a b) (k : lr_le b c) : lr_le a c := by
  cases a <;> cases b <;> cases c <;> simp_all [lr_le] <;> omega
theorem lr_le_anti {a b : Option Int} (h : lr_le a b) (k : lr_le b a) : a = b := by
  cases a <;> cases b <;> simp_all [lr_le]; omega
theorem lr_ad_le {a b c d : Option Int} (h : lr_le a c) (k : lr_le b d) : lr_le (lr_ad a b) (lr_ad c d) := by
  cases a <;> cases b <;> cases c <;> cases d <;> simp_all [lr_le, lr_ad] <;> omega
theorem lr_ad_comm (a b : Option Int) : lr_ad a b = lr_ad b a := by
  cases a <;> cases b <;> simp [lr_ad]; omega
theorem lr_ad_assoc (a b c : Option Int) : lr_ad (lr_ad a b) c = lr_ad a (lr_ad b c) := by
  cases a <;> cases b <;> cases c <;> simp [lr_ad]; omega
theorem lr_mn_l (a b : Option Int) : lr_le (lr_mn a b) a := by
  cases a <;> cases b <;> simp [lr_le, lr_mn]; split <;> omega
theorem lr_mn_r (a b : Option Int) : lr_le (lr_mn a b) b := by
  cases a <;> cases b <;> simp [lr_le, lr_mn]; split <;> omega
theorem lr_mn_g {a b c : Option Int} (h : lr_le c a) (k : lr_le c b) : lr_le c (lr_mn a b) := by
  cases a <;> cases b <;> cases c <;> simp_all [lr_le, lr_mn]; split <;> omega
theorem lr_mn_or (a b : Option Int) : lr_mn a b = a ∨ lr_mn a b = b := by
  cases a with
  | none => right; cases b <;> rfl
  | some x =>
    cases b with
    | none => left; rfl
    | some y =>
      unfold lr_mn
      by_cases h : y < x
      · right; simp [h]
      · left; simp [h]
theorem lr_mn_comm (a b : Option Int) : lr_mn a b = lr_mn b a := by
  cases a <;> cases b <;> simp [lr_mn]; split <;> split <;> omega
/-- a sum with something in its middle that is not negative -/
theorem lr_q4 {x y z w : Option Int} (h : lr_le (some 0) (lr_ad y z)) : lr_le (lr_ad x w) (lr_ad (lr_ad x y) (lr_ad z w)) := by
  cases x <;> cases y <;> cases z <;> cases w <;> simp_all [lr_le, lr_ad] <;> omega
theorem lr_q2 {t x y z : Option Int} (h : lr_le t (lr_ad y z)) : lr_le (lr_ad x t) (lr_ad (lr_ad x y) z) := by
  cases x <;> cases y <;> cases z <;> cases t <;> simp_all [lr_le, lr_ad] <;> omega
theorem lr_q3 {t x y w : Option Int} (h : lr_le t (lr_ad x y)) : lr_le (lr_ad t w) (lr_ad x (lr_ad y w)) := by
  cases x <;> cases y <;> cases w <;> cases t <;> simp_all [lr_le, lr_ad] <;> omega
theorem lr_qr {a z : Option Int} (h : lr_le (some 0) z) : lr_le a (lr_ad a z) := by
  cases a <;> cases z <;> simp_all [lr_le, lr_ad]; omega
theorem lr_ql {a z : Option Int} (h : lr_le (some 0) z) : lr_le a (lr_ad z a) := by
  rw [lr_ad_comm]; exact lr_qr h
/-- the opposite place -/
def lr_op (i : Nat) : Nat := if i % 2 = 0 then i + 1 else i - 1
theorem lr_op_op (i : Nat) : lr_op (lr_op i) = i := by
  unfold lr_op; split <;> split <;> omega
theorem lr_op_ne (i : Nat) : lr_op i ≠ i := by
  unfold lr_op; split <;> omega
theorem lr_op_lt {i n : Nat} (h : i < 2 * n) : lr_op i < 2 * n := by
  unfold lr_op; split <;> omega
abbrev lr_M : Type := Nat → Nat → Option Int
/-- chains through each place -/
def lr_Tri (N K : Nat) (D : lr_M) : Prop := ∀ p, p < K → ∀ i, i < N → ∀ j, j < N → lr_le (D i j) (lr_ad (D i p) (D (lr_op p) j))
def lr_LE (N : Nat) (X Y : lr_M) : Prop := ∀ i, i < N → ∀ j, j < N → lr_le (X i j) (Y i j)
def lr_Sym (N : Nat) (X : lr_M) : Prop := ∀ i, i < N → ∀ j, j < N → X i j = X j i
def lr_step (k : Nat) (D : lr_M) : lr_M := fun i j => lr_mn (D i j) (lr_ad (D i k) (D (lr_op k) j))
def lr_fw (D : lr_M) : Nat → lr_M
  | 0 => D
  | k + 1 => lr_step k (lr_fw D k)
theorem lr_step_tri {n k : Nat} {D : lr_M} (hk : k < 2 * n) (h : lr_Tri (2 * n) k D) (h0 : lr_le (some 0) (D (lr_op k) k)) : lr_Tri (2 * n) (k + 1) (lr_step k D) := by
  intro p hp i hi j hj
  have hok := lr_op_lt hk
  rcases Nat.lt_or_ge p k with hpk | hpk
  · have hop := lr_op_lt (Nat.lt_trans hpk hk)
    have hp2 : p < 2 * n := Nat.lt_trans hpk hk
    have e1 : lr_le (lr_step k D i j) (D i j) := lr_mn_l _ _
    have e2 : lr_le (lr_step k D i j) (lr_ad (D i k) (D (lr_op k) j)) := lr_mn_r _ _
    rcases lr_mn_or (D i p) (lr_ad (D i k) (D (lr_op k) p)) with a | a <;> rcases lr_mn_or (D (lr_op p) j) (lr_ad (D (lr_op p) k) (D (lr_op k) j)) with b | b
    · show lr_le _ (lr_ad (lr_mn _ _) (lr_mn _ _))
      rw [a, b]
      exact lr_le_trans e1 (h p hpk i hi j hj)
    · show lr_le _ (lr_ad (lr_mn _ _) (lr_mn _ _))
      rw [a, b]
      exact lr_le_trans e2 (lr_q3 (h p hpk i hi k hk))
    · show lr_le _ (lr_ad (lr_mn _ _) (lr_mn _ _))
      rw [a, b]
      exact lr_le_trans e2 (lr_q2 (h p hpk _ hok j hj))
    · show lr_le _ (lr_ad (lr_mn _ _) (lr_mn _ _))
      rw [a, b]
      exact lr_le_trans e2 (lr_q4 (lr_le_trans h0 (h p hpk _ hok k hk)))
  · have : p = k := by omega
    subst this
    have e2 : lr_le (lr_step p D i j) (lr_ad (D i p) (D (lr_op p) j)) := lr_mn_r _ _
    refine lr_le_trans e2 (lr_ad_le ?_ ?_)
    · exact lr_mn_g (lr_le_refl _) (lr_qr h0)
    · exact lr_mn_g (lr_le_refl _) (lr_ql h0)
theorem lr_fw_tri {n : Nat} {D : lr_M} : ∀ k, k ≤ 2 * n → (∀ q, q < k → lr_le (some 0) (lr_fw D q (lr_op q) q)) → lr_Tri (2 * n) k (lr_fw D k)
  | 0, _, _ => fun p hp => absurd hp (Nat.not_lt_zero p)
  | k + 1, hk, h => lr_step_tri hk (lr_fw_tri k (by omega) (fun q hq => h q (by omega))) (h k (by omega))
theorem lr_fw_le {n : Nat} {D : lr_M} : ∀ k, lr_LE (2 * n) (lr_fw D k) D
  | 0 => fun i _ j _ => lr_le_refl _
  | k + 1 => fun i hi j hj => lr_le_trans (lr_mn_l _ _) (lr_fw_le k i hi j hj)
/-- every matrix with all chains that lies below D lies below each state of the way -/
theorem lr_fw_gr {n : Nat} {D Y : lr_M} (hY : lr_Tri (2 * n) (2 * n) Y) (h : lr_LE (2 * n) Y D) : ∀ k, k ≤ 2 * n → lr_LE (2 * n) Y (lr_fw D k)
  | 0, _ => h
  | k + 1, hk => fun i hi j hj => by
    have ih := lr_fw_gr hY h k (by omega)
    have hk' : k < 2 * n := by omega
    exact lr_mn_g (ih i hi j hj) (lr_le_trans (hY k hk' i hi j hj) (lr_ad_le (ih i hi k hk') (ih _ (lr_op_lt hk') j hj)))
theorem lr_fw_sym {n : Nat} {D : lr_M} (hs : lr_Sym (2 * n) D) (ht : lr_Tri (2 * n) (2 * n) (lr_fw D (2 * n))) : lr_Sym (2 * n) (lr_fw D (2 * n)) := by
  have h1 : lr_Tri (2 * n) (2 * n) (fun i j => lr_fw D (2 * n) j i) := by
    intro p hp i hi j hj
    have := ht (lr_op p) (lr_op_lt hp) j hj i hi
    rw [lr_op_op] at this
    show lr_le (lr_fw D (2 * n) j i) (lr_ad (lr_fw D (2 * n) p i) (lr_fw D (2 * n) j (lr_op p)))
    rw [lr_ad_comm]
    exact this
  have h2 : lr_LE (2 * n) (fun i j => lr_fw D (2 * n) j i) D := by
    intro i hi j hj
    rw [hs i hi j hj]
    exact lr_fw_le (2 * n) j hj i hi
  have h3 := lr_fw_gr h1 h2 (2 * n) (Nat.le_refl _)
  intro i hi j hj
  exact lr_le_anti (h3 j hj i hi) (h3 i hi j hj)
/-- closed: the same in both orders, opposite terms are 0 together, chains, twice a term is even, halves are added -/
def lr_Cl (n : Nat) (X : lr_M) : Prop := lr_Sym (2 * n) X ∧ (∀ i, i < 2 * n → X i (lr_op i) = some 0) ∧ lr_Tri (2 * n) (2 * n) X ∧ (∀ i, i < 2 * n → ∀ c, X i i = some c → c % 2 = 0) ∧ (∀ i, i < 2 * n → ∀ j, j < 2 * n → lr_le (lr_db (X i j)) (lr_ad (X i i) (X j j)))
/-- what closing gives: the greatest closed matrix below X -/
def lr_Is (n : Nat) (X R : lr_M) : Prop := lr_Cl n R ∧ lr_LE (2 * n) R X ∧ ∀ Y, lr_Cl n Y → lr_LE (2 * n) Y X → lr_LE (2 * n) Y R
def lr_No (n : Nat) (X : lr_M) : Prop := ∀ Y, lr_Cl n Y → ¬ lr_LE (2 * n) Y X
theorem lr_Is_eq {n : Nat} {X X' R R' : lr_M} (hX : ∀ i, i < 2 * n → ∀ j, j < 2 * n → X i j = X' i j) (h : lr_Is n X R) (h' : lr_Is n X' R') : ∀ i, i < 2 * n → ∀ j, j < 2 * n → R i j = R' i j := by
  intro i hi j hj
  have a : lr_LE (2 * n) R X' := fun i hi j hj => by rw [← hX i hi j hj]; exact h.2.1 i hi j hj
  have b : lr_LE (2 * n) R' X := fun i hi j hj => by rw [hX i hi j hj]; exact h'.2.1 i hi j hj
  exact lr_le_anti (h'.2.2 R h.1 a i hi j hj) (h.2.2 R' h'.1 b i hi j hj)
theorem lr_Is_No {n : Nat} {X X' R : lr_M} (hX : ∀ i, i < 2 * n → ∀ j, j < 2 * n → X i j = X' i j) (h : lr_Is n X R) : ¬ lr_No n X' := fun k =>
  k R h.1 (fun i hi j hj => by rw [← hX i hi j hj]; exact h.2.1 i hi j hj)
/-- cutting twice a term to an even number, and adding halves -/
def lr_cut (D : lr_M) : lr_M := fun i j => if i = j then lr_db (lr_hf (D i i)) else lr_mn (D i j) (lr_ad (lr_hf (D i i)) (lr_hf (D j j)))
theorem lr_hf_le {a b : Option Int} (h : lr_le a b) : lr_le (lr_hf a) (lr_hf b) := by
  cases a <;> cases b <;> simp_all [lr_le, lr_hf]; omega
theorem lr_dh_le (a : Option Int) : lr_le (lr_db (lr_hf a)) a := by
  cases a <;> simp [lr_le, lr_hf, lr_db]; omega
theorem lr_hd {a : Option Int} : lr_hf (lr_db a) = a := by
  cases a <;> simp [lr_hf, lr_db]
theorem lr_db_le {a b : Option Int} (h : lr_le a b) : lr_le (lr_db a) (lr_db b) := by
  cases a <;> cases b <;> simp_all [lr_le, lr_db]
theorem lr_db_ad (a b : Option Int) : lr_db (lr_ad a b) = lr_ad (lr_db a) (lr_db b) := by
  cases a <;> cases b <;> simp [lr_ad, lr_db]; omega
theorem lr_db_2 (a : Option Int) : lr_db a = lr_ad a a := by
  cases a <;> simp [lr_ad, lr_db]; omega
theorem lr_ev {a b : Option Int} (h : lr_le a b) (he : ∀ c, a = some c → c % 2 = 0) : lr_le a (lr_db (lr_hf b)) := by
  cases a <;> cases b <;> simp_all [lr_le, lr_hf, lr_db]; omega
/-- a term's half through another place -/
theorem lr_hf_tri {n : Nat} {D : lr_M} (hs : lr_Sym (2 * n) D) (ht : lr_Tri (2 * n) (2 * n) D) {j k : Nat} (hj : j < 2 * n) (hk : k < 2 * n) : lr_le (lr_hf (D j j)) (lr_ad (lr_hf (D k k)) (D (lr_op k) j)) := by
  have a := ht (lr_op k) (lr_op_lt hk) j hj j hj
  rw [lr_op_op, hs j hj _ (lr_op_lt hk)] at a
  have b := ht k hk k hk j hj
  generalize D j j = x at *
  generalize D (lr_op k) j = y at *
  generalize D k j = z at *
  generalize D k k = w at *
  cases x <;> cases y <;> cases z <;> cases w <;> simp_all [lr_le, lr_hf, lr_ad]; omega
theorem lr_cut_le {n : Nat} {D : lr_M} : lr_LE (2 * n) (lr_cut D) D := by
  intro i hi j hj
  unfold lr_cut
  split
  · rename_i h; subst h; exact lr_dh_le _
  · exact lr_mn_l _ _
theorem lr_cut_half (D : lr_M) (i j : Nat) : lr_le (lr_cut D i j) (lr_ad (lr_hf (D i i)) (lr_hf (D j j))) := by
  unfold lr_cut
  split
  · rename_i h; subst h; rw [lr_db_2]; exact lr_le_refl _
  · exact lr_mn_r _ _
theorem lr_cut_or (D : lr_M) (i j : Nat) : lr_cut D i j = D i j ∨ lr_cut D i j = lr_ad (lr_hf (D i i)) (lr_hf (D j j)) := by
  unfold lr_cut
  split
  · rename_i h; subst h; right; rw [lr_db_2]
  · exact lr_mn_or _ _
theorem lr_cut_cl {n : Nat} {D : lr_M} (hs : lr_Sym (2 * n) D) (ht : lr_Tri (2 * n) (2 * n) D) (h0 : ∀ i, i < 2 * n → D i (lr_op i) = some 0) (hh : ∀ i, i < 2 * n → lr_le (some 0) (lr_ad (lr_hf (D i i)) (lr_hf (D (lr_op i) (lr_op i))))) : lr_Cl n (lr_cut D) := by
  refine ⟨?_, ?_, ?_, ?_, ?_⟩
  · intro i hi j hj
    unfold lr_cut
    by_cases h : i = j
    · subst h; rfl
    · rw [if_neg h, if_neg (fun q => h q.symm), hs i hi j hj, lr_ad_comm]
  · intro i hi
    unfold lr_cut
    rw [if_neg (fun q => lr_op_ne i q.symm), h0 i hi]
    have := hh i hi
    generalize lr_ad (lr_hf (D i i)) (lr_hf (D (lr_op i) (lr_op i))) = x at *
    cases x <;> simp_all [lr_le, lr_mn]; omega
  · intro p hp i hi j hj
    have hop := lr_op_lt hp
    rcases lr_cut_or D i p with a | a <;> rcases lr_cut_or D (lr_op p) j with b | b <;> rw [a, b]
    · exact lr_le_trans (lr_cut_le (n := n) i hi j hj) (ht p hp i hi j hj)
    · refine lr_le_trans (lr_cut_half D i j) ?_
      have h2 := lr_hf_tri hs ht hi hop
      rw [lr_op_op, hs p hp i hi] at h2
      generalize lr_hf (D i i) = x at *
      generalize lr_hf (D j j) = y at *
      generalize lr_hf (D (lr_op p) (lr_op p)) = z at *
      generalize D i p = w at *
      cases x <;> cases y <;> cases z <;> cases w <;> simp_all [lr_le, lr_ad]; omega
    · refine lr_le_trans (lr_cut_half D i j) ?_
      have h2 := lr_hf_tri hs ht hj hp
      generalize lr_hf (D i i) = x at *
      generalize lr_hf (D j j) = y at *
      generalize lr_hf (D p p) = z at *
      generalize D (lr_op p) j = w at *
      cases x <;> cases y <;> cases z <;> cases w <;> simp_all [lr_le, lr_ad]; omega
    · refine lr_le_trans (lr_cut_half D i j) ?_
      exact lr_q4 (hh p hp)
  · intro i hi c hc
    unfold lr_cut at hc
    rw [if_pos rfl] at hc
    generalize D i i = x at *
    cases x <;> simp_all [lr_hf, lr_db]; omega
  · intro i hi j hj
    have := lr_db_le (lr_cut_half D i j)
    rw [lr_db_ad] at this
    have e : ∀ q, lr_cut D q q = lr_db (lr_hf (D q q)) := fun q => by unfold lr_cut; rw [if_pos rfl]
    rw [e i, e j]
    exact this
/-- below X: below its chains, below their cut -/
theorem lr_cut_gr {n : Nat} {D Y : lr_M} (hY : lr_Cl n Y) (h : lr_LE (2 * n) Y D) : lr_LE (2 * n) Y (lr_cut D) := by
  intro i hi j hj
  obtain ⟨-, -, -, he, hst⟩ := hY
  unfold lr_cut
  split
  · rename_i q; subst q; exact lr_ev (h i hi i hi) (he i hi)
  · refine lr_mn_g (h i hi j hj) ?_
    have a := lr_hf_le (h i hi i hi)
    have b := lr_hf_le (h j hj j hj)
    have c := hst i hi j hj
    have ei := he i hi
    have ej := he j hj
    refine lr_le_trans ?_ (lr_ad_le a b)
    generalize Y i j = x at *
    generalize Y i i = y at *
    generalize Y j j = z at *
    cases x <;> cases y <;> cases z <;> simp_all [lr_le, lr_hf, lr_ad, lr_db]; omega
/-- CLOSING: chains, then the cut -/
theorem lr_close_is {n : Nat} {X : lr_M} (hs : lr_Sym (2 * n) X) (h0 : ∀ i, i < 2 * n → X i (lr_op i) = some 0) (hc : ∀ k, k ≤ 2 * n → ∀ i, i < 2 * n → lr_le (some 0) (lr_fw X k i (lr_op i)))
    (hh : ∀ i, i < 2 * n → lr_le (some 0) (lr_ad (lr_hf (lr_fw X (2 * n) i i)) (lr_hf (lr_fw X (2 * n) (lr_op i) (lr_op i))))) : lr_Is n X (lr_cut (lr_fw X (2 * n))) := by
  have ht := lr_fw_tri (n := n) (D := X) (2 * n) (Nat.le_refl _) (fun q hq => by
    have := hc q (by omega) (lr_op q) (lr_op_lt hq)
    rw [lr_op_op] at this
    exact this)
  have hsym := lr_fw_sym hs ht
  have hz : ∀ i, i < 2 * n → lr_fw X (2 * n) i (lr_op i) = some 0 := fun i hi => by
    refine lr_le_anti ?_ (hc _ (Nat.le_refl _) i hi)
    rw [← h0 i hi]
    exact lr_fw_le (2 * n) i hi _ (lr_op_lt hi)
  refine ⟨lr_cut_cl hsym ht hz hh, ?_, ?_⟩
  · intro i hi j hj
    exact lr_le_trans (lr_cut_le (n := n) i hi j hj) (lr_fw_le (2 * n) i hi j hj)
  · intro Y hY hYX
    exact lr_cut_gr hY (lr_fw_gr hY.2.2.1 hYX (2 * n) (Nat.le_refl _))
theorem lr_close_no1 {n k i : Nat} {X : lr_M} (hk : k ≤ 2 * n) (hi : i < 2 * n) (h : ¬ lr_le (some 0) (lr_fw X k i (lr_op i))) : lr_No n X := by
  intro Y hY hYX
  have := lr_fw_gr hY.2.2.1 hYX k hk i hi (lr_op i) (lr_op_lt hi)
  rw [hY.2.1 i hi] at this
  exact h this
theorem lr_close_no2 {n i : Nat} {X : lr_M} (hi : i < 2 * n) (h : ¬ lr_le (some 0) (lr_ad (lr_hf (lr_fw X (2 * n) i i)) (lr_hf (lr_fw X (2 * n) (lr_op i) (lr_op i))))) : lr_No n X := by
  intro Y hY hYX
  apply h
  have g := lr_fw_gr hY.2.2.1 hYX (2 * n) (Nat.le_refl _)
  have ho := lr_op_lt hi
  have a := lr_hf_le (g i hi i hi)
  have b := lr_hf_le (g _ ho _ ho)
  refine lr_le_trans ?_ (lr_ad_le a b)
  have c := hY.2.2.2.2 i hi _ ho
  rw [hY.2.1 i hi] at c
  have ei := hY.2.2.2.1 i hi
  have eo := hY.2.2.2.1 _ ho
  generalize Y i i = y at *
  generalize Y (lr_op i) (lr_op i) = z at *
  cases y <;> cases z <;> simp_all [lr_le, lr_hf, lr_ad, lr_db]; omega
end
section
theorem d_S_init_0 : decode b_S_init 0 = .ok (.aload_n 0, 1) := by decide +kernel
theorem d_S_init_1 : decode b_S_init 1 = .ok (.invokespecial 3, 3) := by decide +kernel
theorem d_S_init_4 : decode b_S_init 4 = .ok (.aload_n 0, 1) := by decide +kernel
theorem d_S_init_5 : decode b_S_init 5 = .ok (.iload_n 1, 1) := by decide +kernel
theorem d_S_init_6 : decode b_S_init 6 = .ok (.putfield 9, 3) := by decide +kernel
theorem d_S_init_9 : decode b_S_init 9 = .ok (.aload_n 0, 1) := by decide +kernel
theorem d_S_init_10 : decode b_S_init 10 = .ok (.new 15, 3) := by decide +kernel
theorem d_S_init_13 : decode b_S_init 13 = .ok (.dup, 1) := by decide +kernel
theorem d_S_init_14 : decode b_S_init 14 = .ok (.iload_n 1, 1) := by decide +kernel
theorem d_S_init_15 : decode b_S_init 15 = .ok (.invokespecial 17, 3) := by decide +kernel
theorem d_S_init_18 : decode b_S_init 18 = .ok (.putfield 20, 3) := by decide +kernel
theorem d_S_init_21 : decode b_S_init 21 = .ok (.aload_n 0, 1) := by decide +kernel
theorem d_S_init_22 : decode b_S_init 22 = .ok (.new 15, 3) := by decide +kernel
theorem d_S_init_25 : decode b_S_init 25 = .ok (.dup, 1) := by decide +kernel
theorem d_S_init_26 : decode b_S_init 26 = .ok (.iload_n 1, 1) := by decide +kernel
theorem d_S_init_27 : decode b_S_init 27 = .ok (.invokespecial 17, 3) := by decide +kernel
theorem d_S_init_30 : decode b_S_init 30 = .ok (.putfield 24, 3) := by decide +kernel
theorem d_S_init_33 : decode b_S_init 33 = .ok (.aload_n 0, 1) := by decide +kernel
theorem d_S_init_34 : decode b_S_init 34 = .ok (.getfield 24, 3) := by decide +kernel
theorem d_S_init_37 : decode b_S_init 37 = .ok (.lconst 0, 1) := by decide +kernel
theorem d_S_init_38 : decode b_S_init 38 = .ok (.invokevirtual 27, 3) := by decide +kernel
theorem d_S_init_41 : decode b_S_init 41 = .ok (.aload_n 0, 1) := by decide +kernel
theorem d_S_init_42 : decode b_S_init 42 = .ok (.iconst 0, 1) := by decide +kernel
theorem d_S_init_43 : decode b_S_init 43 = .ok (.putfield 31, 3) := by decide +kernel
theorem d_S_init_46 : decode b_S_init 46 = .ok (.return_, 1) := by decide +kernel
theorem d_S_becomeAll_0 : decode b_S_becomeAll 0 = .ok (.aload_n 0, 1) := by decide +kernel
theorem d_S_becomeAll_1 : decode b_S_becomeAll 1 = .ok (.iconst 0, 1) := by decide +kernel
theorem d_S_becomeAll_2 : decode b_S_becomeAll 2 = .ok (.putfield 31, 3) := by decide +kernel
theorem d_S_becomeAll_5 : decode b_S_becomeAll 5 = .ok (.aload_n 0, 1) := by decide +kernel
theorem d_S_becomeAll_6 : decode b_S_becomeAll 6 = .ok (.getfield 20, 3) := by decide +kernel
theorem d_S_becomeAll_9 : decode b_S_becomeAll 9 = .ok (.invokevirtual 35, 3) := by decide +kernel
theorem d_S_becomeAll_12 : decode b_S_becomeAll 12 = .ok (.aload_n 0, 1) := by decide +kernel
theorem d_S_becomeAll_13 : decode b_S_becomeAll 13 = .ok (.getfield 24, 3) := by decide +kernel
theorem d_S_becomeAll_16 : decode b_S_becomeAll 16 = .ok (.invokevirtual 35, 3) := by decide +kernel
theorem d_S_becomeAll_19 : decode b_S_becomeAll 19 = .ok (.aload_n 0, 1) := by decide +kernel
theorem d_S_becomeAll_20 : decode b_S_becomeAll 20 = .ok (.getfield 24, 3) := by decide +kernel
theorem d_S_becomeAll_23 : decode b_S_becomeAll 23 = .ok (.lconst 0, 1) := by decide +kernel
theorem d_S_becomeAll_24 : decode b_S_becomeAll 24 = .ok (.invokevirtual 27, 3) := by decide +kernel
theorem d_S_becomeAll_27 : decode b_S_becomeAll 27 = .ok (.return_, 1) := by decide +kernel
theorem d_S_becomeEmpty_0 : decode b_S_becomeEmpty 0 = .ok (.aload_n 0, 1) := by decide +kernel
theorem d_S_becomeEmpty_1 : decode b_S_becomeEmpty 1 = .ok (.invokevirtual 38, 3) := by decide +kernel
theorem d_S_becomeEmpty_4 : decode b_S_becomeEmpty 4 = .ok (.aload_n 0, 1) := by decide +kernel
theorem d_S_becomeEmpty_5 : decode b_S_becomeEmpty 5 = .ok (.iconst 1, 1) := by decide +kernel
theorem d_S_becomeEmpty_6 : decode b_S_becomeEmpty 6 = .ok (.putfield 31, 3) := by decide +kernel
theorem d_S_becomeEmpty_9 : decode b_S_becomeEmpty 9 = .ok (.return_, 1) := by decide +kernel
theorem d_S_becomeLike_0 : decode b_S_becomeLike 0 = .ok (.aload_n 0, 1) := by decide +kernel
theorem d_S_becomeLike_1 : decode b_S_becomeLike 1 = .ok (.aload_n 1, 1) := by decide +kernel
theorem d_S_becomeLike_2 : decode b_S_becomeLike 2 = .ok (.getfield 31, 3) := by decide +kernel
theorem d_S_becomeLike_5 : decode b_S_becomeLike 5 = .ok (.putfield 31, 3) := by decide +kernel
theorem d_S_becomeLike_8 : decode b_S_becomeLike 8 = .ok (.aload_n 0, 1) := by decide +kernel
theorem d_S_becomeLike_9 : decode b_S_becomeLike 9 = .ok (.getfield 20, 3) := by decide +kernel
theorem d_S_becomeLike_12 : decode b_S_becomeLike 12 = .ok (.aload_n 1, 1) := by decide +kernel
theorem d_S_becomeLike_13 : decode b_S_becomeLike 13 = .ok (.getfield 20, 3) := by decide +kernel
theorem d_S_becomeLike_16 : decode b_S_becomeLike 16 = .ok (.invokevirtual 41, 3) := by decide +kernel
theorem d_S_becomeLike_19 : decode b_S_becomeLike 19 = .ok (.aload_n 0, 1) := by decide +kernel
theorem d_S_becomeLike_20 : decode b_S_becomeLike 20 = .ok (.getfield 24, 3) := by decide +kernel
theorem d_S_becomeLike_23 : decode b_S_becomeLike 23 = .ok (.aload_n 1, 1) := by decide +kernel
theorem d_S_becomeLike_24 : decode b_S_becomeLike 24 = .ok (.getfield 24, 3) := by decide +kernel
theorem d_S_becomeLike_27 : decode b_S_becomeLike 27 = .ok (.invokevirtual 41, 3) := by decide +kernel
theorem d_S_becomeLike_30 : decode b_S_becomeLike 30 = .ok (.return_, 1) := by decide +kernel
theorem d_S_greatest_0 : decode b_S_greatest 0 = .ok (.aload_n 0, 1) := by decide +kernel
theorem d_S_greatest_1 : decode b_S_greatest 1 = .ok (.getfield 31, 3) := by decide +kernel
theorem d_S_greatest_4 : decode b_S_greatest 4 = .ok (.ifCond .eq 7, 3) := by decide +kernel
theorem d_S_greatest_7 : decode b_S_greatest 7 = .ok (.ldc2_w 45, 3) := by decide +kernel
theorem d_S_greatest_10 : decode b_S_greatest 10 = .ok (.lreturn, 1) := by decide +kernel
theorem d_S_greatest_11 : decode b_S_greatest 11 = .ok (.iload_n 1, 1) := by decide +kernel
theorem d_S_greatest_12 : decode b_S_greatest 12 = .ok (.iload_n 2, 1) := by decide +kernel
theorem d_S_greatest_13 : decode b_S_greatest 13 = .ok (.ineg, 1) := by decide +kernel
theorem d_S_greatest_14 : decode b_S_greatest 14 = .ok (.if_icmp .ne 7, 3) := by decide +kernel
theorem d_S_greatest_17 : decode b_S_greatest 17 = .ok (.lconst 0, 1) := by decide +kernel
theorem d_S_greatest_18 : decode b_S_greatest 18 = .ok (.goto 12, 3) := by decide +kernel
theorem d_S_greatest_21 : decode b_S_greatest 21 = .ok (.aload_n 0, 1) := by decide +kernel
theorem d_S_greatest_22 : decode b_S_greatest 22 = .ok (.getfield 24, 3) := by decide +kernel
theorem d_S_greatest_25 : decode b_S_greatest 25 = .ok (.iload_n 1, 1) := by decide +kernel
theorem d_S_greatest_26 : decode b_S_greatest 26 = .ok (.iload_n 2, 1) := by decide +kernel
theorem d_S_greatest_27 : decode b_S_greatest 27 = .ok (.invokevirtual 47, 3) := by decide +kernel
theorem d_S_greatest_30 : decode b_S_greatest 30 = .ok (.lreturn, 1) := by decide +kernel
theorem d_S_addRow_0 : decode b_S_addRow 0 = .ok (.aload_n 0, 1) := by decide +kernel
theorem d_S_addRow_1 : decode b_S_addRow 1 = .ok (.getfield 31, 3) := by decide +kernel
theorem d_S_addRow_4 : decode b_S_addRow 4 = .ok (.ifCond .eq 4, 3) := by decide +kernel
theorem d_S_addRow_7 : decode b_S_addRow 7 = .ok (.return_, 1) := by decide +kernel
theorem d_S_addRow_8 : decode b_S_addRow 8 = .ok (.iload_n 1, 1) := by decide +kernel
theorem d_S_addRow_9 : decode b_S_addRow 9 = .ok (.iload_n 2, 1) := by decide +kernel
theorem d_S_addRow_10 : decode b_S_addRow 10 = .ok (.ineg, 1) := by decide +kernel
theorem d_S_addRow_11 : decode b_S_addRow 11 = .ok (.if_icmp .ne 14, 3) := by decide +kernel
theorem d_S_addRow_14 : decode b_S_addRow 14 = .ok (.lload_n 3, 1) := by decide +kernel
theorem d_S_addRow_15 : decode b_S_addRow 15 = .ok (.lconst 0, 1) := by decide +kernel
theorem d_S_addRow_16 : decode b_S_addRow 16 = .ok (.lcmp, 1) := by decide +kernel
theorem d_S_addRow_17 : decode b_S_addRow 17 = .ok (.ifCond .ge 7, 3) := by decide +kernel
theorem d_S_addRow_20 : decode b_S_addRow 20 = .ok (.aload_n 0, 1) := by decide +kernel
theorem d_S_addRow_21 : decode b_S_addRow 21 = .ok (.invokevirtual 51, 3) := by decide +kernel
theorem d_S_addRow_24 : decode b_S_addRow 24 = .ok (.return_, 1) := by decide +kernel
theorem d_S_addRow_25 : decode b_S_addRow 25 = .ok (.iload_n 1, 1) := by decide +kernel
theorem d_S_addRow_26 : decode b_S_addRow 26 = .ok (.ifCond .eq 7, 3) := by decide +kernel
theorem d_S_addRow_29 : decode b_S_addRow 29 = .ok (.iload_n 2, 1) := by decide +kernel
theorem d_S_addRow_30 : decode b_S_addRow 30 = .ok (.ifCond .ne 36, 3) := by decide +kernel
theorem d_S_addRow_33 : decode b_S_addRow 33 = .ok (.iload_n 1, 1) := by decide +kernel
theorem d_S_addRow_34 : decode b_S_addRow 34 = .ok (.ifCond .ne 7, 3) := by decide +kernel
theorem d_S_addRow_37 : decode b_S_addRow 37 = .ok (.iload_n 2, 1) := by decide +kernel
theorem d_S_addRow_38 : decode b_S_addRow 38 = .ok (.goto 4, 3) := by decide +kernel
theorem d_S_addRow_41 : decode b_S_addRow 41 = .ok (.iload_n 1, 1) := by decide +kernel
theorem d_S_addRow_42 : decode b_S_addRow 42 = .ok (.invokestatic 54, 3) := by decide +kernel
theorem d_S_addRow_45 : decode b_S_addRow 45 = .ok (.istore 5, 2) := by decide +kernel
theorem d_S_addRow_47 : decode b_S_addRow 47 = .ok (.aload_n 0, 1) := by decide +kernel
theorem d_S_addRow_48 : decode b_S_addRow 48 = .ok (.getfield 20, 3) := by decide +kernel
theorem d_S_addRow_51 : decode b_S_addRow 51 = .ok (.iload 5, 2) := by decide +kernel
theorem d_S_addRow_53 : decode b_S_addRow 53 = .ok (.iload 5, 2) := by decide +kernel
theorem d_S_addRow_55 : decode b_S_addRow 55 = .ok (.ldc2_w 58, 3) := by decide +kernel
theorem d_S_addRow_58 : decode b_S_addRow 58 = .ok (.lload_n 3, 1) := by decide +kernel
theorem d_S_addRow_59 : decode b_S_addRow 59 = .ok (.lmul, 1) := by decide +kernel
theorem d_S_addRow_60 : decode b_S_addRow 60 = .ok (.invokevirtual 60, 3) := by decide +kernel
theorem d_S_addRow_63 : decode b_S_addRow 63 = .ok (.goto 53, 3) := by decide +kernel
theorem d_S_addRow_66 : decode b_S_addRow 66 = .ok (.iload_n 1, 1) := by decide +kernel
theorem d_S_addRow_67 : decode b_S_addRow 67 = .ok (.iload_n 2, 1) := by decide +kernel
theorem d_S_addRow_68 : decode b_S_addRow 68 = .ok (.if_icmp .ne 32, 3) := by decide +kernel
theorem d_S_addRow_71 : decode b_S_addRow 71 = .ok (.aload_n 0, 1) := by decide +kernel
theorem d_S_addRow_72 : decode b_S_addRow 72 = .ok (.getfield 20, 3) := by decide +kernel
theorem d_S_addRow_75 : decode b_S_addRow 75 = .ok (.iload_n 1, 1) := by decide +kernel
theorem d_S_addRow_76 : decode b_S_addRow 76 = .ok (.invokestatic 54, 3) := by decide +kernel
theorem d_S_addRow_79 : decode b_S_addRow 79 = .ok (.iload_n 1, 1) := by decide +kernel
theorem d_S_addRow_80 : decode b_S_addRow 80 = .ok (.invokestatic 54, 3) := by decide +kernel
theorem d_S_addRow_83 : decode b_S_addRow 83 = .ok (.ldc2_w 58, 3) := by decide +kernel
theorem d_S_addRow_86 : decode b_S_addRow 86 = .ok (.lload_n 3, 1) := by decide +kernel
theorem d_S_addRow_87 : decode b_S_addRow 87 = .ok (.ldc2_w 58, 3) := by decide +kernel
theorem d_S_addRow_90 : decode b_S_addRow 90 = .ok (.invokestatic 64, 3) := by decide +kernel
theorem d_S_addRow_93 : decode b_S_addRow 93 = .ok (.lmul, 1) := by decide +kernel
theorem d_S_addRow_94 : decode b_S_addRow 94 = .ok (.invokevirtual 60, 3) := by decide +kernel
theorem d_S_addRow_97 : decode b_S_addRow 97 = .ok (.goto 19, 3) := by decide +kernel
theorem d_S_addRow_100 : decode b_S_addRow 100 = .ok (.aload_n 0, 1) := by decide +kernel
theorem d_S_addRow_101 : decode b_S_addRow 101 = .ok (.getfield 20, 3) := by decide +kernel
theorem d_S_addRow_104 : decode b_S_addRow 104 = .ok (.iload_n 1, 1) := by decide +kernel
theorem d_S_addRow_105 : decode b_S_addRow 105 = .ok (.invokestatic 54, 3) := by decide +kernel
theorem d_S_addRow_108 : decode b_S_addRow 108 = .ok (.iload_n 2, 1) := by decide +kernel
theorem d_S_addRow_109 : decode b_S_addRow 109 = .ok (.invokestatic 54, 3) := by decide +kernel
theorem d_S_addRow_112 : decode b_S_addRow 112 = .ok (.lload_n 3, 1) := by decide +kernel
theorem d_S_addRow_113 : decode b_S_addRow 113 = .ok (.invokevirtual 60, 3) := by decide +kernel
theorem d_S_addRow_116 : decode b_S_addRow 116 = .ok (.aload_n 0, 1) := by decide +kernel
theorem d_S_addRow_117 : decode b_S_addRow 117 = .ok (.invokevirtual 70, 3) := by decide +kernel
theorem d_S_addRow_120 : decode b_S_addRow 120 = .ok (.return_, 1) := by decide +kernel
theorem d_S_becomeMeeting_0 : decode b_S_becomeMeeting 0 = .ok (.aload_n 1, 1) := by decide +kernel
theorem d_S_becomeMeeting_1 : decode b_S_becomeMeeting 1 = .ok (.getfield 31, 3) := by decide +kernel
theorem d_S_becomeMeeting_4 : decode b_S_becomeMeeting 4 = .ok (.ifCond .ne 10, 3) := by decide +kernel
theorem d_S_becomeMeeting_7 : decode b_S_becomeMeeting 7 = .ok (.aload_n 2, 1) := by decide +kernel
theorem d_S_becomeMeeting_8 : decode b_S_becomeMeeting 8 = .ok (.getfield 31, 3) := by decide +kernel
theorem d_S_becomeMeeting_11 : decode b_S_becomeMeeting 11 = .ok (.ifCond .eq 8, 3) := by decide +kernel
theorem d_S_becomeMeeting_14 : decode b_S_becomeMeeting 14 = .ok (.aload_n 0, 1) := by decide +kernel
theorem d_S_becomeMeeting_15 : decode b_S_becomeMeeting 15 = .ok (.invokevirtual 51, 3) := by decide +kernel
theorem d_S_becomeMeeting_18 : decode b_S_becomeMeeting 18 = .ok (.return_, 1) := by decide +kernel
theorem d_S_becomeMeeting_19 : decode b_S_becomeMeeting 19 = .ok (.aload_n 0, 1) := by decide +kernel
theorem d_S_becomeMeeting_20 : decode b_S_becomeMeeting 20 = .ok (.invokevirtual 38, 3) := by decide +kernel
theorem d_S_becomeMeeting_23 : decode b_S_becomeMeeting 23 = .ok (.iconst 0, 1) := by decide +kernel
theorem d_S_becomeMeeting_24 : decode b_S_becomeMeeting 24 = .ok (.istore_n 3, 1) := by decide +kernel
theorem d_S_becomeMeeting_25 : decode b_S_becomeMeeting 25 = .ok (.iload_n 3, 1) := by decide +kernel
theorem d_S_becomeMeeting_26 : decode b_S_becomeMeeting 26 = .ok (.aload_n 0, 1) := by decide +kernel
theorem d_S_becomeMeeting_27 : decode b_S_becomeMeeting 27 = .ok (.getfield 9, 3) := by decide +kernel
theorem d_S_becomeMeeting_30 : decode b_S_becomeMeeting 30 = .ok (.if_icmp .ge 60, 3) := by decide +kernel
theorem d_S_becomeMeeting_33 : decode b_S_becomeMeeting 33 = .ok (.iload_n 3, 1) := by decide +kernel
theorem d_S_becomeMeeting_34 : decode b_S_becomeMeeting 34 = .ok (.istore 4, 2) := by decide +kernel
theorem d_S_becomeMeeting_36 : decode b_S_becomeMeeting 36 = .ok (.iload 4, 2) := by decide +kernel
theorem d_S_becomeMeeting_38 : decode b_S_becomeMeeting 38 = .ok (.aload_n 0, 1) := by decide +kernel
theorem d_S_becomeMeeting_39 : decode b_S_becomeMeeting 39 = .ok (.getfield 9, 3) := by decide +kernel
theorem d_S_becomeMeeting_42 : decode b_S_becomeMeeting 42 = .ok (.if_icmp .ge 42, 3) := by decide +kernel
theorem d_S_becomeMeeting_45 : decode b_S_becomeMeeting 45 = .ok (.aload_n 0, 1) := by decide +kernel
theorem d_S_becomeMeeting_46 : decode b_S_becomeMeeting 46 = .ok (.getfield 20, 3) := by decide +kernel
theorem d_S_becomeMeeting_49 : decode b_S_becomeMeeting 49 = .ok (.iload_n 3, 1) := by decide +kernel
theorem d_S_becomeMeeting_50 : decode b_S_becomeMeeting 50 = .ok (.iload 4, 2) := by decide +kernel
theorem d_S_becomeMeeting_52 : decode b_S_becomeMeeting 52 = .ok (.aload_n 1, 1) := by decide +kernel
theorem d_S_becomeMeeting_53 : decode b_S_becomeMeeting 53 = .ok (.getfield 24, 3) := by decide +kernel
theorem d_S_becomeMeeting_56 : decode b_S_becomeMeeting 56 = .ok (.iload_n 3, 1) := by decide +kernel
theorem d_S_becomeMeeting_57 : decode b_S_becomeMeeting 57 = .ok (.iload 4, 2) := by decide +kernel
theorem d_S_becomeMeeting_59 : decode b_S_becomeMeeting 59 = .ok (.invokevirtual 73, 3) := by decide +kernel
theorem d_S_becomeMeeting_62 : decode b_S_becomeMeeting 62 = .ok (.aload_n 2, 1) := by decide +kernel
theorem d_S_becomeMeeting_63 : decode b_S_becomeMeeting 63 = .ok (.getfield 24, 3) := by decide +kernel
theorem d_S_becomeMeeting_66 : decode b_S_becomeMeeting 66 = .ok (.iload_n 3, 1) := by decide +kernel
theorem d_S_becomeMeeting_67 : decode b_S_becomeMeeting 67 = .ok (.iload 4, 2) := by decide +kernel
theorem d_S_becomeMeeting_69 : decode b_S_becomeMeeting 69 = .ok (.invokevirtual 73, 3) := by decide +kernel
theorem d_S_becomeMeeting_72 : decode b_S_becomeMeeting 72 = .ok (.invokestatic 76, 3) := by decide +kernel
theorem d_S_becomeMeeting_75 : decode b_S_becomeMeeting 75 = .ok (.invokevirtual 79, 3) := by decide +kernel
theorem d_S_becomeMeeting_78 : decode b_S_becomeMeeting 78 = .ok (.iinc 4 1, 3) := by decide +kernel
theorem d_S_becomeMeeting_81 : decode b_S_becomeMeeting 81 = .ok (.goto (-45), 3) := by decide +kernel
theorem d_S_becomeMeeting_84 : decode b_S_becomeMeeting 84 = .ok (.iinc 3 1, 3) := by decide +kernel
theorem d_S_becomeMeeting_87 : decode b_S_becomeMeeting 87 = .ok (.goto (-62), 3) := by decide +kernel
theorem d_S_becomeMeeting_90 : decode b_S_becomeMeeting 90 = .ok (.aload_n 0, 1) := by decide +kernel
theorem d_S_becomeMeeting_91 : decode b_S_becomeMeeting 91 = .ok (.invokevirtual 70, 3) := by decide +kernel
theorem d_S_becomeMeeting_94 : decode b_S_becomeMeeting 94 = .ok (.aload_n 0, 1) := by decide +kernel
theorem d_S_becomeMeeting_95 : decode b_S_becomeMeeting 95 = .ok (.invokevirtual 82, 3) := by decide +kernel
theorem d_S_becomeMeeting_98 : decode b_S_becomeMeeting 98 = .ok (.return_, 1) := by decide +kernel
theorem d_S_becomeJoin_0 : decode b_S_becomeJoin 0 = .ok (.aload_n 1, 1) := by decide +kernel
theorem d_S_becomeJoin_1 : decode b_S_becomeJoin 1 = .ok (.getfield 31, 3) := by decide +kernel
theorem d_S_becomeJoin_4 : decode b_S_becomeJoin 4 = .ok (.ifCond .ne 10, 3) := by decide +kernel
theorem d_S_becomeJoin_7 : decode b_S_becomeJoin 7 = .ok (.aload_n 2, 1) := by decide +kernel
theorem d_S_becomeJoin_8 : decode b_S_becomeJoin 8 = .ok (.getfield 31, 3) := by decide +kernel
theorem d_S_becomeJoin_11 : decode b_S_becomeJoin 11 = .ok (.ifCond .eq 24, 3) := by decide +kernel
theorem d_S_becomeJoin_14 : decode b_S_becomeJoin 14 = .ok (.aload_n 0, 1) := by decide +kernel
theorem d_S_becomeJoin_15 : decode b_S_becomeJoin 15 = .ok (.aload_n 1, 1) := by decide +kernel
theorem d_S_becomeJoin_16 : decode b_S_becomeJoin 16 = .ok (.getfield 31, 3) := by decide +kernel
theorem d_S_becomeJoin_19 : decode b_S_becomeJoin 19 = .ok (.ifCond .eq 7, 3) := by decide +kernel
theorem d_S_becomeJoin_22 : decode b_S_becomeJoin 22 = .ok (.aload_n 2, 1) := by decide +kernel
theorem d_S_becomeJoin_23 : decode b_S_becomeJoin 23 = .ok (.goto 4, 3) := by decide +kernel
theorem d_S_becomeJoin_26 : decode b_S_becomeJoin 26 = .ok (.aload_n 1, 1) := by decide +kernel
theorem d_S_becomeJoin_27 : decode b_S_becomeJoin 27 = .ok (.invokevirtual 85, 3) := by decide +kernel
theorem d_S_becomeJoin_30 : decode b_S_becomeJoin 30 = .ok (.aload_n 0, 1) := by decide +kernel
theorem d_S_becomeJoin_31 : decode b_S_becomeJoin 31 = .ok (.invokevirtual 82, 3) := by decide +kernel
theorem d_S_becomeJoin_34 : decode b_S_becomeJoin 34 = .ok (.return_, 1) := by decide +kernel
theorem d_S_becomeJoin_35 : decode b_S_becomeJoin 35 = .ok (.aload_n 0, 1) := by decide +kernel
theorem d_S_becomeJoin_36 : decode b_S_becomeJoin 36 = .ok (.invokevirtual 38, 3) := by decide +kernel
theorem d_S_becomeJoin_39 : decode b_S_becomeJoin 39 = .ok (.iconst 0, 1) := by decide +kernel
theorem d_S_becomeJoin_40 : decode b_S_becomeJoin 40 = .ok (.istore_n 3, 1) := by decide +kernel
theorem d_S_becomeJoin_41 : decode b_S_becomeJoin 41 = .ok (.iload_n 3, 1) := by decide +kernel
theorem d_S_becomeJoin_42 : decode b_S_becomeJoin 42 = .ok (.aload_n 0, 1) := by decide +kernel
theorem d_S_becomeJoin_43 : decode b_S_becomeJoin 43 = .ok (.getfield 9, 3) := by decide +kernel
theorem d_S_becomeJoin_46 : decode b_S_becomeJoin 46 = .ok (.if_icmp .ge 60, 3) := by decide +kernel
theorem d_S_becomeJoin_49 : decode b_S_becomeJoin 49 = .ok (.iload_n 3, 1) := by decide +kernel
theorem d_S_becomeJoin_50 : decode b_S_becomeJoin 50 = .ok (.istore 4, 2) := by decide +kernel
theorem d_S_becomeJoin_52 : decode b_S_becomeJoin 52 = .ok (.iload 4, 2) := by decide +kernel
theorem d_S_becomeJoin_54 : decode b_S_becomeJoin 54 = .ok (.aload_n 0, 1) := by decide +kernel
theorem d_S_becomeJoin_55 : decode b_S_becomeJoin 55 = .ok (.getfield 9, 3) := by decide +kernel
theorem d_S_becomeJoin_58 : decode b_S_becomeJoin 58 = .ok (.if_icmp .ge 42, 3) := by decide +kernel
theorem d_S_becomeJoin_61 : decode b_S_becomeJoin 61 = .ok (.aload_n 0, 1) := by decide +kernel
theorem d_S_becomeJoin_62 : decode b_S_becomeJoin 62 = .ok (.getfield 24, 3) := by decide +kernel
theorem d_S_becomeJoin_65 : decode b_S_becomeJoin 65 = .ok (.iload_n 3, 1) := by decide +kernel
theorem d_S_becomeJoin_66 : decode b_S_becomeJoin 66 = .ok (.iload 4, 2) := by decide +kernel
theorem d_S_becomeJoin_68 : decode b_S_becomeJoin 68 = .ok (.aload_n 1, 1) := by decide +kernel
theorem d_S_becomeJoin_69 : decode b_S_becomeJoin 69 = .ok (.getfield 24, 3) := by decide +kernel
theorem d_S_becomeJoin_72 : decode b_S_becomeJoin 72 = .ok (.iload_n 3, 1) := by decide +kernel
theorem d_S_becomeJoin_73 : decode b_S_becomeJoin 73 = .ok (.iload 4, 2) := by decide +kernel
theorem d_S_becomeJoin_75 : decode b_S_becomeJoin 75 = .ok (.invokevirtual 73, 3) := by decide +kernel
theorem d_S_becomeJoin_78 : decode b_S_becomeJoin 78 = .ok (.aload_n 2, 1) := by decide +kernel
theorem d_S_becomeJoin_79 : decode b_S_becomeJoin 79 = .ok (.getfield 24, 3) := by decide +kernel
theorem d_S_becomeJoin_82 : decode b_S_becomeJoin 82 = .ok (.iload_n 3, 1) := by decide +kernel
theorem d_S_becomeJoin_83 : decode b_S_becomeJoin 83 = .ok (.iload 4, 2) := by decide +kernel
theorem d_S_becomeJoin_85 : decode b_S_becomeJoin 85 = .ok (.invokevirtual 73, 3) := by decide +kernel
theorem d_S_becomeJoin_88 : decode b_S_becomeJoin 88 = .ok (.invokestatic 89, 3) := by decide +kernel
theorem d_S_becomeJoin_91 : decode b_S_becomeJoin 91 = .ok (.invokevirtual 79, 3) := by decide +kernel
theorem d_S_becomeJoin_94 : decode b_S_becomeJoin 94 = .ok (.iinc 4 1, 3) := by decide +kernel
theorem d_S_becomeJoin_97 : decode b_S_becomeJoin 97 = .ok (.goto (-45), 3) := by decide +kernel
theorem d_S_becomeJoin_100 : decode b_S_becomeJoin 100 = .ok (.iinc 3 1, 3) := by decide +kernel
theorem d_S_becomeJoin_103 : decode b_S_becomeJoin 103 = .ok (.goto (-62), 3) := by decide +kernel
theorem d_S_becomeJoin_106 : decode b_S_becomeJoin 106 = .ok (.aload_n 0, 1) := by decide +kernel
theorem d_S_becomeJoin_107 : decode b_S_becomeJoin 107 = .ok (.invokevirtual 82, 3) := by decide +kernel
theorem d_S_becomeJoin_110 : decode b_S_becomeJoin 110 = .ok (.return_, 1) := by decide +kernel
theorem d_S_becomeWidened_0 : decode b_S_becomeWidened 0 = .ok (.aload_n 1, 1) := by decide +kernel
theorem d_S_becomeWidened_1 : decode b_S_becomeWidened 1 = .ok (.getfield 31, 3) := by decide +kernel
theorem d_S_becomeWidened_4 : decode b_S_becomeWidened 4 = .ok (.ifCond .ne 10, 3) := by decide +kernel
theorem d_S_becomeWidened_7 : decode b_S_becomeWidened 7 = .ok (.aload_n 2, 1) := by decide +kernel
theorem d_S_becomeWidened_8 : decode b_S_becomeWidened 8 = .ok (.getfield 31, 3) := by decide +kernel
theorem d_S_becomeWidened_11 : decode b_S_becomeWidened 11 = .ok (.ifCond .eq 20, 3) := by decide +kernel
theorem d_S_becomeWidened_14 : decode b_S_becomeWidened 14 = .ok (.aload_n 0, 1) := by decide +kernel
theorem d_S_becomeWidened_15 : decode b_S_becomeWidened 15 = .ok (.aload_n 1, 1) := by decide +kernel
theorem d_S_becomeWidened_16 : decode b_S_becomeWidened 16 = .ok (.getfield 31, 3) := by decide +kernel
theorem d_S_becomeWidened_19 : decode b_S_becomeWidened 19 = .ok (.ifCond .eq 7, 3) := by decide +kernel
theorem d_S_becomeWidened_22 : decode b_S_becomeWidened 22 = .ok (.aload_n 2, 1) := by decide +kernel
theorem d_S_becomeWidened_23 : decode b_S_becomeWidened 23 = .ok (.goto 4, 3) := by decide +kernel
theorem d_S_becomeWidened_26 : decode b_S_becomeWidened 26 = .ok (.aload_n 1, 1) := by decide +kernel
theorem d_S_becomeWidened_27 : decode b_S_becomeWidened 27 = .ok (.invokevirtual 85, 3) := by decide +kernel
theorem d_S_becomeWidened_30 : decode b_S_becomeWidened 30 = .ok (.return_, 1) := by decide +kernel
theorem d_S_becomeWidened_31 : decode b_S_becomeWidened 31 = .ok (.aload_n 0, 1) := by decide +kernel
theorem d_S_becomeWidened_32 : decode b_S_becomeWidened 32 = .ok (.invokevirtual 38, 3) := by decide +kernel
theorem d_S_becomeWidened_35 : decode b_S_becomeWidened 35 = .ok (.iconst 0, 1) := by decide +kernel
theorem d_S_becomeWidened_36 : decode b_S_becomeWidened 36 = .ok (.istore_n 3, 1) := by decide +kernel
theorem d_S_becomeWidened_37 : decode b_S_becomeWidened 37 = .ok (.iload_n 3, 1) := by decide +kernel
theorem d_S_becomeWidened_38 : decode b_S_becomeWidened 38 = .ok (.aload_n 0, 1) := by decide +kernel
theorem d_S_becomeWidened_39 : decode b_S_becomeWidened 39 = .ok (.getfield 9, 3) := by decide +kernel
theorem d_S_becomeWidened_42 : decode b_S_becomeWidened 42 = .ok (.if_icmp .ge 73, 3) := by decide +kernel
theorem d_S_becomeWidened_45 : decode b_S_becomeWidened 45 = .ok (.iload_n 3, 1) := by decide +kernel
theorem d_S_becomeWidened_46 : decode b_S_becomeWidened 46 = .ok (.istore 4, 2) := by decide +kernel
theorem d_S_becomeWidened_48 : decode b_S_becomeWidened 48 = .ok (.iload 4, 2) := by decide +kernel
theorem d_S_becomeWidened_50 : decode b_S_becomeWidened 50 = .ok (.aload_n 0, 1) := by decide +kernel
theorem d_S_becomeWidened_51 : decode b_S_becomeWidened 51 = .ok (.getfield 9, 3) := by decide +kernel
theorem d_S_becomeWidened_54 : decode b_S_becomeWidened 54 = .ok (.if_icmp .ge 55, 3) := by decide +kernel
theorem d_S_becomeWidened_57 : decode b_S_becomeWidened 57 = .ok (.aload_n 1, 1) := by decide +kernel
theorem d_S_becomeWidened_58 : decode b_S_becomeWidened 58 = .ok (.getfield 20, 3) := by decide +kernel
theorem d_S_becomeWidened_61 : decode b_S_becomeWidened 61 = .ok (.iload_n 3, 1) := by decide +kernel
theorem d_S_becomeWidened_62 : decode b_S_becomeWidened 62 = .ok (.iload 4, 2) := by decide +kernel
theorem d_S_becomeWidened_64 : decode b_S_becomeWidened 64 = .ok (.invokevirtual 73, 3) := by decide +kernel
theorem d_S_becomeWidened_67 : decode b_S_becomeWidened 67 = .ok (.lstore 5, 2) := by decide +kernel
theorem d_S_becomeWidened_69 : decode b_S_becomeWidened 69 = .ok (.aload_n 0, 1) := by decide +kernel
theorem d_S_becomeWidened_70 : decode b_S_becomeWidened 70 = .ok (.getfield 20, 3) := by decide +kernel
theorem d_S_becomeWidened_73 : decode b_S_becomeWidened 73 = .ok (.iload_n 3, 1) := by decide +kernel
theorem d_S_becomeWidened_74 : decode b_S_becomeWidened 74 = .ok (.iload 4, 2) := by decide +kernel
theorem d_S_becomeWidened_76 : decode b_S_becomeWidened 76 = .ok (.aload_n 2, 1) := by decide +kernel
theorem d_S_becomeWidened_77 : decode b_S_becomeWidened 77 = .ok (.getfield 24, 3) := by decide +kernel
theorem d_S_becomeWidened_80 : decode b_S_becomeWidened 80 = .ok (.iload_n 3, 1) := by decide +kernel
theorem d_S_becomeWidened_81 : decode b_S_becomeWidened 81 = .ok (.iload 4, 2) := by decide +kernel
theorem d_S_becomeWidened_83 : decode b_S_becomeWidened 83 = .ok (.invokevirtual 73, 3) := by decide +kernel
theorem d_S_becomeWidened_86 : decode b_S_becomeWidened 86 = .ok (.lload 5, 2) := by decide +kernel
theorem d_S_becomeWidened_88 : decode b_S_becomeWidened 88 = .ok (.lcmp, 1) := by decide +kernel
theorem d_S_becomeWidened_89 : decode b_S_becomeWidened 89 = .ok (.ifCond .gt 8, 3) := by decide +kernel
theorem d_S_becomeWidened_92 : decode b_S_becomeWidened 92 = .ok (.lload 5, 2) := by decide +kernel
theorem d_S_becomeWidened_94 : decode b_S_becomeWidened 94 = .ok (.goto 6, 3) := by decide +kernel
theorem d_S_becomeWidened_97 : decode b_S_becomeWidened 97 = .ok (.ldc2_w 92, 3) := by decide +kernel
theorem d_S_becomeWidened_100 : decode b_S_becomeWidened 100 = .ok (.invokevirtual 79, 3) := by decide +kernel
theorem d_S_becomeWidened_103 : decode b_S_becomeWidened 103 = .ok (.iinc 4 1, 3) := by decide +kernel
theorem d_S_becomeWidened_106 : decode b_S_becomeWidened 106 = .ok (.goto (-58), 3) := by decide +kernel
theorem d_S_becomeWidened_109 : decode b_S_becomeWidened 109 = .ok (.iinc 3 1, 3) := by decide +kernel
theorem d_S_becomeWidened_112 : decode b_S_becomeWidened 112 = .ok (.goto (-75), 3) := by decide +kernel
theorem d_S_becomeWidened_115 : decode b_S_becomeWidened 115 = .ok (.aload_n 0, 1) := by decide +kernel
theorem d_S_becomeWidened_116 : decode b_S_becomeWidened 116 = .ok (.invokevirtual 70, 3) := by decide +kernel
theorem d_S_becomeWidened_119 : decode b_S_becomeWidened 119 = .ok (.return_, 1) := by decide +kernel
theorem d_S_becomeNarrowed_0 : decode b_S_becomeNarrowed 0 = .ok (.aload_n 1, 1) := by decide +kernel
theorem d_S_becomeNarrowed_1 : decode b_S_becomeNarrowed 1 = .ok (.getfield 31, 3) := by decide +kernel
theorem d_S_becomeNarrowed_4 : decode b_S_becomeNarrowed 4 = .ok (.ifCond .ne 10, 3) := by decide +kernel
theorem d_S_becomeNarrowed_7 : decode b_S_becomeNarrowed 7 = .ok (.aload_n 2, 1) := by decide +kernel
theorem d_S_becomeNarrowed_8 : decode b_S_becomeNarrowed 8 = .ok (.getfield 31, 3) := by decide +kernel
theorem d_S_becomeNarrowed_11 : decode b_S_becomeNarrowed 11 = .ok (.ifCond .eq 8, 3) := by decide +kernel
theorem d_S_becomeNarrowed_14 : decode b_S_becomeNarrowed 14 = .ok (.aload_n 0, 1) := by decide +kernel
theorem d_S_becomeNarrowed_15 : decode b_S_becomeNarrowed 15 = .ok (.invokevirtual 51, 3) := by decide +kernel
theorem d_S_becomeNarrowed_18 : decode b_S_becomeNarrowed 18 = .ok (.return_, 1) := by decide +kernel
theorem d_S_becomeNarrowed_19 : decode b_S_becomeNarrowed 19 = .ok (.aload_n 0, 1) := by decide +kernel
theorem d_S_becomeNarrowed_20 : decode b_S_becomeNarrowed 20 = .ok (.invokevirtual 38, 3) := by decide +kernel
theorem d_S_becomeNarrowed_23 : decode b_S_becomeNarrowed 23 = .ok (.iconst 0, 1) := by decide +kernel
theorem d_S_becomeNarrowed_24 : decode b_S_becomeNarrowed 24 = .ok (.istore_n 3, 1) := by decide +kernel
theorem d_S_becomeNarrowed_25 : decode b_S_becomeNarrowed 25 = .ok (.iload_n 3, 1) := by decide +kernel
theorem d_S_becomeNarrowed_26 : decode b_S_becomeNarrowed 26 = .ok (.aload_n 0, 1) := by decide +kernel
theorem d_S_becomeNarrowed_27 : decode b_S_becomeNarrowed 27 = .ok (.getfield 9, 3) := by decide +kernel
theorem d_S_becomeNarrowed_30 : decode b_S_becomeNarrowed 30 = .ok (.if_icmp .ge 89, 3) := by decide +kernel
theorem d_S_becomeNarrowed_33 : decode b_S_becomeNarrowed 33 = .ok (.iload_n 3, 1) := by decide +kernel
theorem d_S_becomeNarrowed_34 : decode b_S_becomeNarrowed 34 = .ok (.istore 4, 2) := by decide +kernel
theorem d_S_becomeNarrowed_36 : decode b_S_becomeNarrowed 36 = .ok (.iload 4, 2) := by decide +kernel
theorem d_S_becomeNarrowed_38 : decode b_S_becomeNarrowed 38 = .ok (.aload_n 0, 1) := by decide +kernel
theorem d_S_becomeNarrowed_39 : decode b_S_becomeNarrowed 39 = .ok (.getfield 9, 3) := by decide +kernel
theorem d_S_becomeNarrowed_42 : decode b_S_becomeNarrowed 42 = .ok (.if_icmp .ge 71, 3) := by decide +kernel
theorem d_S_becomeNarrowed_45 : decode b_S_becomeNarrowed 45 = .ok (.aload_n 1, 1) := by decide +kernel
theorem d_S_becomeNarrowed_46 : decode b_S_becomeNarrowed 46 = .ok (.getfield 24, 3) := by decide +kernel
theorem d_S_becomeNarrowed_49 : decode b_S_becomeNarrowed 49 = .ok (.iload_n 3, 1) := by decide +kernel
theorem d_S_becomeNarrowed_50 : decode b_S_becomeNarrowed 50 = .ok (.iload 4, 2) := by decide +kernel
theorem d_S_becomeNarrowed_52 : decode b_S_becomeNarrowed 52 = .ok (.invokevirtual 73, 3) := by decide +kernel
theorem d_S_becomeNarrowed_55 : decode b_S_becomeNarrowed 55 = .ok (.ldc2_w 92, 3) := by decide +kernel
theorem d_S_becomeNarrowed_58 : decode b_S_becomeNarrowed 58 = .ok (.lcmp, 1) := by decide +kernel
theorem d_S_becomeNarrowed_59 : decode b_S_becomeNarrowed 59 = .ok (.ifCond .ne 7, 3) := by decide +kernel
theorem d_S_becomeNarrowed_62 : decode b_S_becomeNarrowed 62 = .ok (.iconst 1, 1) := by decide +kernel
theorem d_S_becomeNarrowed_63 : decode b_S_becomeNarrowed 63 = .ok (.goto 4, 3) := by decide +kernel
theorem d_S_becomeNarrowed_66 : decode b_S_becomeNarrowed 66 = .ok (.iconst 0, 1) := by decide +kernel
theorem d_S_becomeNarrowed_67 : decode b_S_becomeNarrowed 67 = .ok (.istore 5, 2) := by decide +kernel
theorem d_S_becomeNarrowed_69 : decode b_S_becomeNarrowed 69 = .ok (.aload_n 0, 1) := by decide +kernel
theorem d_S_becomeNarrowed_70 : decode b_S_becomeNarrowed 70 = .ok (.getfield 20, 3) := by decide +kernel
theorem d_S_becomeNarrowed_73 : decode b_S_becomeNarrowed 73 = .ok (.iload_n 3, 1) := by decide +kernel
theorem d_S_becomeNarrowed_74 : decode b_S_becomeNarrowed 74 = .ok (.iload 4, 2) := by decide +kernel
theorem d_S_becomeNarrowed_76 : decode b_S_becomeNarrowed 76 = .ok (.iload 5, 2) := by decide +kernel
theorem d_S_becomeNarrowed_78 : decode b_S_becomeNarrowed 78 = .ok (.ifCond .eq 16, 3) := by decide +kernel
theorem d_S_becomeNarrowed_81 : decode b_S_becomeNarrowed 81 = .ok (.aload_n 2, 1) := by decide +kernel
theorem d_S_becomeNarrowed_82 : decode b_S_becomeNarrowed 82 = .ok (.getfield 24, 3) := by decide +kernel
theorem d_S_becomeNarrowed_85 : decode b_S_becomeNarrowed 85 = .ok (.iload_n 3, 1) := by decide +kernel
theorem d_S_becomeNarrowed_86 : decode b_S_becomeNarrowed 86 = .ok (.iload 4, 2) := by decide +kernel
theorem d_S_becomeNarrowed_88 : decode b_S_becomeNarrowed 88 = .ok (.invokevirtual 73, 3) := by decide +kernel
theorem d_S_becomeNarrowed_91 : decode b_S_becomeNarrowed 91 = .ok (.goto 13, 3) := by decide +kernel
theorem d_S_becomeNarrowed_94 : decode b_S_becomeNarrowed 94 = .ok (.aload_n 1, 1) := by decide +kernel
theorem d_S_becomeNarrowed_95 : decode b_S_becomeNarrowed 95 = .ok (.getfield 20, 3) := by decide +kernel
theorem d_S_becomeNarrowed_98 : decode b_S_becomeNarrowed 98 = .ok (.iload_n 3, 1) := by decide +kernel
theorem d_S_becomeNarrowed_99 : decode b_S_becomeNarrowed 99 = .ok (.iload 4, 2) := by decide +kernel
theorem d_S_becomeNarrowed_101 : decode b_S_becomeNarrowed 101 = .ok (.invokevirtual 73, 3) := by decide +kernel
theorem d_S_becomeNarrowed_104 : decode b_S_becomeNarrowed 104 = .ok (.invokevirtual 79, 3) := by decide +kernel
theorem d_S_becomeNarrowed_107 : decode b_S_becomeNarrowed 107 = .ok (.iinc 4 1, 3) := by decide +kernel
theorem d_S_becomeNarrowed_110 : decode b_S_becomeNarrowed 110 = .ok (.goto (-74), 3) := by decide +kernel
theorem d_S_becomeNarrowed_113 : decode b_S_becomeNarrowed 113 = .ok (.iinc 3 1, 3) := by decide +kernel
theorem d_S_becomeNarrowed_116 : decode b_S_becomeNarrowed 116 = .ok (.goto (-91), 3) := by decide +kernel
theorem d_S_becomeNarrowed_119 : decode b_S_becomeNarrowed 119 = .ok (.aload_n 0, 1) := by decide +kernel
theorem d_S_becomeNarrowed_120 : decode b_S_becomeNarrowed 120 = .ok (.invokevirtual 70, 3) := by decide +kernel
theorem d_S_becomeNarrowed_123 : decode b_S_becomeNarrowed 123 = .ok (.return_, 1) := by decide +kernel
theorem d_S_becomeAssigned_0 : decode b_S_becomeAssigned 0 = .ok (.aload_n 1, 1) := by decide +kernel
theorem d_S_becomeAssigned_1 : decode b_S_becomeAssigned 1 = .ok (.getfield 31, 3) := by decide +kernel
theorem d_S_becomeAssigned_4 : decode b_S_becomeAssigned 4 = .ok (.ifCond .eq 8, 3) := by decide +kernel
theorem d_S_becomeAssigned_7 : decode b_S_becomeAssigned 7 = .ok (.aload_n 0, 1) := by decide +kernel
theorem d_S_becomeAssigned_8 : decode b_S_becomeAssigned 8 = .ok (.invokevirtual 51, 3) := by decide +kernel
theorem d_S_becomeAssigned_11 : decode b_S_becomeAssigned 11 = .ok (.return_, 1) := by decide +kernel
theorem d_S_becomeAssigned_12 : decode b_S_becomeAssigned 12 = .ok (.aload_n 0, 1) := by decide +kernel
theorem d_S_becomeAssigned_13 : decode b_S_becomeAssigned 13 = .ok (.invokevirtual 38, 3) := by decide +kernel
theorem d_S_becomeAssigned_16 : decode b_S_becomeAssigned 16 = .ok (.iconst 0, 1) := by decide +kernel
theorem d_S_becomeAssigned_17 : decode b_S_becomeAssigned 17 = .ok (.istore 6, 2) := by decide +kernel
theorem d_S_becomeAssigned_19 : decode b_S_becomeAssigned 19 = .ok (.iload 6, 2) := by decide +kernel
theorem d_S_becomeAssigned_21 : decode b_S_becomeAssigned 21 = .ok (.aload_n 0, 1) := by decide +kernel
theorem d_S_becomeAssigned_22 : decode b_S_becomeAssigned 22 = .ok (.getfield 9, 3) := by decide +kernel
theorem d_S_becomeAssigned_25 : decode b_S_becomeAssigned 25 = .ok (.if_icmp .ge 81, 3) := by decide +kernel
theorem d_S_becomeAssigned_28 : decode b_S_becomeAssigned 28 = .ok (.iload 6, 2) := by decide +kernel
theorem d_S_becomeAssigned_30 : decode b_S_becomeAssigned 30 = .ok (.istore 7, 2) := by decide +kernel
theorem d_S_becomeAssigned_32 : decode b_S_becomeAssigned 32 = .ok (.iload 7, 2) := by decide +kernel
theorem d_S_becomeAssigned_34 : decode b_S_becomeAssigned 34 = .ok (.aload_n 0, 1) := by decide +kernel
theorem d_S_becomeAssigned_35 : decode b_S_becomeAssigned 35 = .ok (.getfield 9, 3) := by decide +kernel
theorem d_S_becomeAssigned_38 : decode b_S_becomeAssigned 38 = .ok (.if_icmp .ge 62, 3) := by decide +kernel
theorem d_S_becomeAssigned_41 : decode b_S_becomeAssigned 41 = .ok (.aload_n 1, 1) := by decide +kernel
theorem d_S_becomeAssigned_42 : decode b_S_becomeAssigned 42 = .ok (.iload 6, 2) := by decide +kernel
theorem d_S_becomeAssigned_44 : decode b_S_becomeAssigned 44 = .ok (.iload_n 2, 1) := by decide +kernel
theorem d_S_becomeAssigned_45 : decode b_S_becomeAssigned 45 = .ok (.iload_n 3, 1) := by decide +kernel
theorem d_S_becomeAssigned_46 : decode b_S_becomeAssigned 46 = .ok (.invokestatic 94, 3) := by decide +kernel
theorem d_S_becomeAssigned_49 : decode b_S_becomeAssigned 49 = .ok (.iload 7, 2) := by decide +kernel
theorem d_S_becomeAssigned_51 : decode b_S_becomeAssigned 51 = .ok (.iload_n 2, 1) := by decide +kernel
theorem d_S_becomeAssigned_52 : decode b_S_becomeAssigned 52 = .ok (.iload_n 3, 1) := by decide +kernel
theorem d_S_becomeAssigned_53 : decode b_S_becomeAssigned 53 = .ok (.invokestatic 94, 3) := by decide +kernel
theorem d_S_becomeAssigned_56 : decode b_S_becomeAssigned 56 = .ok (.invokevirtual 98, 3) := by decide +kernel
theorem d_S_becomeAssigned_59 : decode b_S_becomeAssigned 59 = .ok (.lstore 8, 2) := by decide +kernel
theorem d_S_becomeAssigned_61 : decode b_S_becomeAssigned 61 = .ok (.aload_n 0, 1) := by decide +kernel
theorem d_S_becomeAssigned_62 : decode b_S_becomeAssigned 62 = .ok (.getfield 24, 3) := by decide +kernel
theorem d_S_becomeAssigned_65 : decode b_S_becomeAssigned 65 = .ok (.iload 6, 2) := by decide +kernel
theorem d_S_becomeAssigned_67 : decode b_S_becomeAssigned 67 = .ok (.iload 7, 2) := by decide +kernel
theorem d_S_becomeAssigned_69 : decode b_S_becomeAssigned 69 = .ok (.lload 8, 2) := by decide +kernel
theorem d_S_becomeAssigned_71 : decode b_S_becomeAssigned 71 = .ok (.iload 6, 2) := by decide +kernel
theorem d_S_becomeAssigned_73 : decode b_S_becomeAssigned 73 = .ok (.iload_n 2, 1) := by decide +kernel
theorem d_S_becomeAssigned_74 : decode b_S_becomeAssigned 74 = .ok (.lload 4, 2) := by decide +kernel
theorem d_S_becomeAssigned_76 : decode b_S_becomeAssigned 76 = .ok (.invokestatic 101, 3) := by decide +kernel
theorem d_S_becomeAssigned_79 : decode b_S_becomeAssigned 79 = .ok (.iload 7, 2) := by decide +kernel
theorem d_S_becomeAssigned_81 : decode b_S_becomeAssigned 81 = .ok (.iload_n 2, 1) := by decide +kernel
theorem d_S_becomeAssigned_82 : decode b_S_becomeAssigned 82 = .ok (.lload 4, 2) := by decide +kernel
theorem d_S_becomeAssigned_84 : decode b_S_becomeAssigned 84 = .ok (.invokestatic 101, 3) := by decide +kernel
theorem d_S_becomeAssigned_87 : decode b_S_becomeAssigned 87 = .ok (.ladd, 1) := by decide +kernel
theorem d_S_becomeAssigned_88 : decode b_S_becomeAssigned 88 = .ok (.invokestatic 105, 3) := by decide +kernel
theorem d_S_becomeAssigned_91 : decode b_S_becomeAssigned 91 = .ok (.invokevirtual 79, 3) := by decide +kernel
theorem d_S_becomeAssigned_94 : decode b_S_becomeAssigned 94 = .ok (.iinc 7 1, 3) := by decide +kernel
theorem d_S_becomeAssigned_97 : decode b_S_becomeAssigned 97 = .ok (.goto (-65), 3) := by decide +kernel
theorem d_S_becomeAssigned_100 : decode b_S_becomeAssigned 100 = .ok (.iinc 6 1, 3) := by decide +kernel
theorem d_S_becomeAssigned_103 : decode b_S_becomeAssigned 103 = .ok (.goto (-84), 3) := by decide +kernel
theorem d_S_becomeAssigned_106 : decode b_S_becomeAssigned 106 = .ok (.aload_n 0, 1) := by decide +kernel
theorem d_S_becomeAssigned_107 : decode b_S_becomeAssigned 107 = .ok (.invokevirtual 82, 3) := by decide +kernel
theorem d_S_becomeAssigned_110 : decode b_S_becomeAssigned 110 = .ok (.return_, 1) := by decide +kernel
theorem d_S_becomeFree_0 : decode b_S_becomeFree 0 = .ok (.aload_n 0, 1) := by decide +kernel
theorem d_S_becomeFree_1 : decode b_S_becomeFree 1 = .ok (.aload_n 1, 1) := by decide +kernel
theorem d_S_becomeFree_2 : decode b_S_becomeFree 2 = .ok (.invokevirtual 85, 3) := by decide +kernel
theorem d_S_becomeFree_5 : decode b_S_becomeFree 5 = .ok (.aload_n 0, 1) := by decide +kernel
theorem d_S_becomeFree_6 : decode b_S_becomeFree 6 = .ok (.getfield 31, 3) := by decide +kernel
theorem d_S_becomeFree_9 : decode b_S_becomeFree 9 = .ok (.ifCond .eq 4, 3) := by decide +kernel
theorem d_S_becomeFree_12 : decode b_S_becomeFree 12 = .ok (.return_, 1) := by decide +kernel
theorem d_S_becomeFree_13 : decode b_S_becomeFree 13 = .ok (.iconst 0, 1) := by decide +kernel
theorem d_S_becomeFree_14 : decode b_S_becomeFree 14 = .ok (.istore_n 3, 1) := by decide +kernel
theorem d_S_becomeFree_15 : decode b_S_becomeFree 15 = .ok (.iload_n 3, 1) := by decide +kernel
theorem d_S_becomeFree_16 : decode b_S_becomeFree 16 = .ok (.aload_n 0, 1) := by decide +kernel
theorem d_S_becomeFree_17 : decode b_S_becomeFree 17 = .ok (.getfield 9, 3) := by decide +kernel
theorem d_S_becomeFree_20 : decode b_S_becomeFree 20 = .ok (.if_icmp .ge 40, 3) := by decide +kernel
theorem d_S_becomeFree_23 : decode b_S_becomeFree 23 = .ok (.aload_n 0, 1) := by decide +kernel
theorem d_S_becomeFree_24 : decode b_S_becomeFree 24 = .ok (.getfield 24, 3) := by decide +kernel
theorem d_S_becomeFree_27 : decode b_S_becomeFree 27 = .ok (.iload_n 2, 1) := by decide +kernel
theorem d_S_becomeFree_28 : decode b_S_becomeFree 28 = .ok (.invokestatic 54, 3) := by decide +kernel
theorem d_S_becomeFree_31 : decode b_S_becomeFree 31 = .ok (.iload_n 3, 1) := by decide +kernel
theorem d_S_becomeFree_32 : decode b_S_becomeFree 32 = .ok (.ldc2_w 92, 3) := by decide +kernel
theorem d_S_becomeFree_35 : decode b_S_becomeFree 35 = .ok (.invokevirtual 79, 3) := by decide +kernel
theorem d_S_becomeFree_38 : decode b_S_becomeFree 38 = .ok (.aload_n 0, 1) := by decide +kernel
theorem d_S_becomeFree_39 : decode b_S_becomeFree 39 = .ok (.getfield 24, 3) := by decide +kernel
theorem d_S_becomeFree_42 : decode b_S_becomeFree 42 = .ok (.iload_n 2, 1) := by decide +kernel
theorem d_S_becomeFree_43 : decode b_S_becomeFree 43 = .ok (.ineg, 1) := by decide +kernel
theorem d_S_becomeFree_44 : decode b_S_becomeFree 44 = .ok (.invokestatic 54, 3) := by decide +kernel
theorem d_S_becomeFree_47 : decode b_S_becomeFree 47 = .ok (.iload_n 3, 1) := by decide +kernel
theorem d_S_becomeFree_48 : decode b_S_becomeFree 48 = .ok (.ldc2_w 92, 3) := by decide +kernel
theorem d_S_becomeFree_51 : decode b_S_becomeFree 51 = .ok (.invokevirtual 79, 3) := by decide +kernel
theorem d_S_becomeFree_54 : decode b_S_becomeFree 54 = .ok (.iinc 3 1, 3) := by decide +kernel
theorem d_S_becomeFree_57 : decode b_S_becomeFree 57 = .ok (.goto (-42), 3) := by decide +kernel
theorem d_S_becomeFree_60 : decode b_S_becomeFree 60 = .ok (.aload_n 0, 1) := by decide +kernel
theorem d_S_becomeFree_61 : decode b_S_becomeFree 61 = .ok (.getfield 24, 3) := by decide +kernel
theorem d_S_becomeFree_64 : decode b_S_becomeFree 64 = .ok (.lconst 0, 1) := by decide +kernel
theorem d_S_becomeFree_65 : decode b_S_becomeFree 65 = .ok (.invokevirtual 27, 3) := by decide +kernel
theorem d_S_becomeFree_68 : decode b_S_becomeFree 68 = .ok (.aload_n 0, 1) := by decide +kernel
theorem d_S_becomeFree_69 : decode b_S_becomeFree 69 = .ok (.invokevirtual 82, 3) := by decide +kernel
theorem d_S_becomeFree_72 : decode b_S_becomeFree 72 = .ok (.return_, 1) := by decide +kernel
theorem d_S_sourceOf_0 : decode b_S_sourceOf 0 = .ok (.iload_n 0, 1) := by decide +kernel
theorem d_S_sourceOf_1 : decode b_S_sourceOf 1 = .ok (.invokestatic 108, 3) := by decide +kernel
theorem d_S_sourceOf_4 : decode b_S_sourceOf 4 = .ok (.istore_n 3, 1) := by decide +kernel
theorem d_S_sourceOf_5 : decode b_S_sourceOf 5 = .ok (.iload_n 3, 1) := by decide +kernel
theorem d_S_sourceOf_6 : decode b_S_sourceOf 6 = .ok (.iload_n 1, 1) := by decide +kernel
theorem d_S_sourceOf_7 : decode b_S_sourceOf 7 = .ok (.if_icmp .ne 5, 3) := by decide +kernel
theorem d_S_sourceOf_10 : decode b_S_sourceOf 10 = .ok (.iload_n 2, 1) := by decide +kernel
theorem d_S_sourceOf_11 : decode b_S_sourceOf 11 = .ok (.ireturn, 1) := by decide +kernel
theorem d_S_sourceOf_12 : decode b_S_sourceOf 12 = .ok (.iload_n 3, 1) := by decide +kernel
theorem d_S_sourceOf_13 : decode b_S_sourceOf 13 = .ok (.iload_n 1, 1) := by decide +kernel
theorem d_S_sourceOf_14 : decode b_S_sourceOf 14 = .ok (.ineg, 1) := by decide +kernel
theorem d_S_sourceOf_15 : decode b_S_sourceOf 15 = .ok (.if_icmp .ne 8, 3) := by decide +kernel
theorem d_S_sourceOf_18 : decode b_S_sourceOf 18 = .ok (.iload_n 2, 1) := by decide +kernel
theorem d_S_sourceOf_19 : decode b_S_sourceOf 19 = .ok (.ineg, 1) := by decide +kernel
theorem d_S_sourceOf_20 : decode b_S_sourceOf 20 = .ok (.goto 4, 3) := by decide +kernel
theorem d_S_sourceOf_23 : decode b_S_sourceOf 23 = .ok (.iload_n 3, 1) := by decide +kernel
theorem d_S_sourceOf_24 : decode b_S_sourceOf 24 = .ok (.ireturn, 1) := by decide +kernel
theorem d_S_addedTo_0 : decode b_S_addedTo 0 = .ok (.iload_n 0, 1) := by decide +kernel
theorem d_S_addedTo_1 : decode b_S_addedTo 1 = .ok (.invokestatic 108, 3) := by decide +kernel
theorem d_S_addedTo_4 : decode b_S_addedTo 4 = .ok (.istore 4, 2) := by decide +kernel
theorem d_S_addedTo_6 : decode b_S_addedTo 6 = .ok (.iload 4, 2) := by decide +kernel
theorem d_S_addedTo_8 : decode b_S_addedTo 8 = .ok (.iload_n 1, 1) := by decide +kernel
theorem d_S_addedTo_9 : decode b_S_addedTo 9 = .ok (.if_icmp .ne 5, 3) := by decide +kernel
theorem d_S_addedTo_12 : decode b_S_addedTo 12 = .ok (.lload_n 2, 1) := by decide +kernel
theorem d_S_addedTo_13 : decode b_S_addedTo 13 = .ok (.lreturn, 1) := by decide +kernel
theorem d_S_addedTo_14 : decode b_S_addedTo 14 = .ok (.iload 4, 2) := by decide +kernel
theorem d_S_addedTo_16 : decode b_S_addedTo 16 = .ok (.iload_n 1, 1) := by decide +kernel
theorem d_S_addedTo_17 : decode b_S_addedTo 17 = .ok (.ineg, 1) := by decide +kernel
theorem d_S_addedTo_18 : decode b_S_addedTo 18 = .ok (.if_icmp .ne 8, 3) := by decide +kernel
theorem d_S_addedTo_21 : decode b_S_addedTo 21 = .ok (.lload_n 2, 1) := by decide +kernel
theorem d_S_addedTo_22 : decode b_S_addedTo 22 = .ok (.lneg, 1) := by decide +kernel
theorem d_S_addedTo_23 : decode b_S_addedTo 23 = .ok (.goto 4, 3) := by decide +kernel
theorem d_S_addedTo_26 : decode b_S_addedTo 26 = .ok (.lconst 0, 1) := by decide +kernel
theorem d_S_addedTo_27 : decode b_S_addedTo 27 = .ok (.lreturn, 1) := by decide +kernel
theorem d_S_closeKeptRows_0 : decode b_S_closeKeptRows 0 = .ok (.aload_n 0, 1) := by decide +kernel
theorem d_S_closeKeptRows_1 : decode b_S_closeKeptRows 1 = .ok (.getfield 24, 3) := by decide +kernel
theorem d_S_closeKeptRows_4 : decode b_S_closeKeptRows 4 = .ok (.aload_n 0, 1) := by decide +kernel
theorem d_S_closeKeptRows_5 : decode b_S_closeKeptRows 5 = .ok (.getfield 20, 3) := by decide +kernel
theorem d_S_closeKeptRows_8 : decode b_S_closeKeptRows 8 = .ok (.invokevirtual 41, 3) := by decide +kernel
theorem d_S_closeKeptRows_11 : decode b_S_closeKeptRows 11 = .ok (.aload_n 0, 1) := by decide +kernel
theorem d_S_closeKeptRows_12 : decode b_S_closeKeptRows 12 = .ok (.getfield 24, 3) := by decide +kernel
theorem d_S_closeKeptRows_15 : decode b_S_closeKeptRows 15 = .ok (.invokevirtual 111, 3) := by decide +kernel
theorem d_S_closeKeptRows_18 : decode b_S_closeKeptRows 18 = .ok (.ifCond .ne 7, 3) := by decide +kernel
theorem d_S_closeKeptRows_21 : decode b_S_closeKeptRows 21 = .ok (.aload_n 0, 1) := by decide +kernel
theorem d_S_closeKeptRows_22 : decode b_S_closeKeptRows 22 = .ok (.invokevirtual 51, 3) := by decide +kernel
theorem d_S_closeKeptRows_25 : decode b_S_closeKeptRows 25 = .ok (.return_, 1) := by decide +kernel
theorem d_S_keepBounds_0 : decode b_S_keepBounds 0 = .ok (.aload_n 0, 1) := by decide +kernel
theorem d_S_keepBounds_1 : decode b_S_keepBounds 1 = .ok (.getfield 31, 3) := by decide +kernel
theorem d_S_keepBounds_4 : decode b_S_keepBounds 4 = .ok (.ifCond .eq 4, 3) := by decide +kernel
theorem d_S_keepBounds_7 : decode b_S_keepBounds 7 = .ok (.return_, 1) := by decide +kernel
theorem d_S_keepBounds_8 : decode b_S_keepBounds 8 = .ok (.aload_n 0, 1) := by decide +kernel
theorem d_S_keepBounds_9 : decode b_S_keepBounds 9 = .ok (.getfield 20, 3) := by decide +kernel
theorem d_S_keepBounds_12 : decode b_S_keepBounds 12 = .ok (.aload_n 0, 1) := by decide +kernel
theorem d_S_keepBounds_13 : decode b_S_keepBounds 13 = .ok (.getfield 24, 3) := by decide +kernel
theorem d_S_keepBounds_16 : decode b_S_keepBounds 16 = .ok (.invokevirtual 41, 3) := by decide +kernel
theorem d_S_keepBounds_19 : decode b_S_keepBounds 19 = .ok (.aload_n 0, 1) := by decide +kernel
theorem d_S_keepBounds_20 : decode b_S_keepBounds 20 = .ok (.getfield 20, 3) := by decide +kernel
theorem d_S_keepBounds_23 : decode b_S_keepBounds 23 = .ok (.ldc2_w 92, 3) := by decide +kernel
theorem d_S_keepBounds_26 : decode b_S_keepBounds 26 = .ok (.invokevirtual 27, 3) := by decide +kernel
theorem d_S_keepBounds_29 : decode b_S_keepBounds 29 = .ok (.return_, 1) := by decide +kernel
theorem d_T_init_0 : decode b_T_init 0 = .ok (.aload_n 0, 1) := by decide +kernel
theorem d_T_init_1 : decode b_T_init 1 = .ok (.invokespecial 3, 3) := by decide +kernel
theorem d_T_init_4 : decode b_T_init 4 = .ok (.aload_n 0, 1) := by decide +kernel
theorem d_T_init_5 : decode b_T_init 5 = .ok (.iload_n 1, 1) := by decide +kernel
theorem d_T_init_6 : decode b_T_init 6 = .ok (.putfield 9, 3) := by decide +kernel
theorem d_T_init_9 : decode b_T_init 9 = .ok (.aload_n 0, 1) := by decide +kernel
theorem d_T_init_10 : decode b_T_init 10 = .ok (.iload_n 1, 1) := by decide +kernel
theorem d_T_init_11 : decode b_T_init 11 = .ok (.iload_n 1, 1) := by decide +kernel
theorem d_T_init_12 : decode b_T_init 12 = .ok (.imul, 1) := by decide +kernel
theorem d_T_init_13 : decode b_T_init 13 = .ok (.newarray .long, 2) := by decide +kernel
theorem d_T_init_15 : decode b_T_init 15 = .ok (.putfield 15, 3) := by decide +kernel
theorem d_T_init_18 : decode b_T_init 18 = .ok (.aload_n 0, 1) := by decide +kernel
theorem d_T_init_19 : decode b_T_init 19 = .ok (.getfield 15, 3) := by decide +kernel
theorem d_T_init_22 : decode b_T_init 22 = .ok (.ldc2_w 19, 3) := by decide +kernel
theorem d_T_init_25 : decode b_T_init 25 = .ok (.invokestatic 21, 3) := by decide +kernel
theorem d_T_init_28 : decode b_T_init 28 = .ok (.return_, 1) := by decide +kernel
theorem d_T_at_0 : decode b_T_at 0 = .ok (.aload_n 0, 1) := by decide +kernel
theorem d_T_at_1 : decode b_T_at 1 = .ok (.getfield 15, 3) := by decide +kernel
theorem d_T_at_4 : decode b_T_at 4 = .ok (.iload_n 1, 1) := by decide +kernel
theorem d_T_at_5 : decode b_T_at 5 = .ok (.aload_n 0, 1) := by decide +kernel
theorem d_T_at_6 : decode b_T_at 6 = .ok (.getfield 9, 3) := by decide +kernel
theorem d_T_at_9 : decode b_T_at 9 = .ok (.imul, 1) := by decide +kernel
theorem d_T_at_10 : decode b_T_at 10 = .ok (.iload_n 2, 1) := by decide +kernel
theorem d_T_at_11 : decode b_T_at 11 = .ok (.iadd, 1) := by decide +kernel
theorem d_T_at_12 : decode b_T_at 12 = .ok (.laload, 1) := by decide +kernel
theorem d_T_at_13 : decode b_T_at 13 = .ok (.lreturn, 1) := by decide +kernel
theorem d_T_half_0 : decode b_T_half 0 = .ok (.aload_n 0, 1) := by decide +kernel
theorem d_T_half_1 : decode b_T_half 1 = .ok (.iload_n 1, 1) := by decide +kernel
theorem d_T_half_2 : decode b_T_half 2 = .ok (.iload_n 1, 1) := by decide +kernel
theorem d_T_half_3 : decode b_T_half 3 = .ok (.invokevirtual 27, 3) := by decide +kernel
theorem d_T_half_6 : decode b_T_half 6 = .ok (.ldc2_w 19, 3) := by decide +kernel
theorem d_T_half_9 : decode b_T_half 9 = .ok (.lcmp, 1) := by decide +kernel
theorem d_T_half_10 : decode b_T_half 10 = .ok (.ifCond .ne 9, 3) := by decide +kernel
theorem d_T_half_13 : decode b_T_half 13 = .ok (.ldc2_w 19, 3) := by decide +kernel
theorem d_T_half_16 : decode b_T_half 16 = .ok (.goto 13, 3) := by decide +kernel
theorem d_T_half_19 : decode b_T_half 19 = .ok (.aload_n 0, 1) := by decide +kernel
theorem d_T_half_20 : decode b_T_half 20 = .ok (.iload_n 1, 1) := by decide +kernel
theorem d_T_half_21 : decode b_T_half 21 = .ok (.iload_n 1, 1) := by decide +kernel
theorem d_T_half_22 : decode b_T_half 22 = .ok (.invokevirtual 27, 3) := by decide +kernel
theorem d_T_half_25 : decode b_T_half 25 = .ok (.ldc2_w 31, 3) := by decide +kernel
theorem d_T_half_28 : decode b_T_half 28 = .ok (.ldiv, 1) := by decide +kernel
theorem d_T_half_29 : decode b_T_half 29 = .ok (.lreturn, 1) := by decide +kernel
theorem d_T_ofTerms_0 : decode b_T_ofTerms 0 = .ok (.iload_n 1, 1) := by decide +kernel
theorem d_T_ofTerms_1 : decode b_T_ofTerms 1 = .ok (.ifCond .eq 7, 3) := by decide +kernel
theorem d_T_ofTerms_4 : decode b_T_ofTerms 4 = .ok (.iload_n 2, 1) := by decide +kernel
theorem d_T_ofTerms_5 : decode b_T_ofTerms 5 = .ok (.ifCond .ne 20, 3) := by decide +kernel
theorem d_T_ofTerms_8 : decode b_T_ofTerms 8 = .ok (.aload_n 0, 1) := by decide +kernel
theorem d_T_ofTerms_9 : decode b_T_ofTerms 9 = .ok (.iload_n 1, 1) := by decide +kernel
theorem d_T_ofTerms_10 : decode b_T_ofTerms 10 = .ok (.ifCond .ne 7, 3) := by decide +kernel
theorem d_T_ofTerms_13 : decode b_T_ofTerms 13 = .ok (.iload_n 2, 1) := by decide +kernel
theorem d_T_ofTerms_14 : decode b_T_ofTerms 14 = .ok (.goto 4, 3) := by decide +kernel
theorem d_T_ofTerms_17 : decode b_T_ofTerms 17 = .ok (.iload_n 1, 1) := by decide +kernel
theorem d_T_ofTerms_18 : decode b_T_ofTerms 18 = .ok (.invokestatic 33, 3) := by decide +kernel
theorem d_T_ofTerms_21 : decode b_T_ofTerms 21 = .ok (.invokevirtual 37, 3) := by decide +kernel
theorem d_T_ofTerms_24 : decode b_T_ofTerms 24 = .ok (.lreturn, 1) := by decide +kernel
theorem d_T_ofTerms_25 : decode b_T_ofTerms 25 = .ok (.aload_n 0, 1) := by decide +kernel
theorem d_T_ofTerms_26 : decode b_T_ofTerms 26 = .ok (.iload_n 1, 1) := by decide +kernel
theorem d_T_ofTerms_27 : decode b_T_ofTerms 27 = .ok (.invokestatic 33, 3) := by decide +kernel
theorem d_T_ofTerms_30 : decode b_T_ofTerms 30 = .ok (.iload_n 2, 1) := by decide +kernel
theorem d_T_ofTerms_31 : decode b_T_ofTerms 31 = .ok (.invokestatic 33, 3) := by decide +kernel
theorem d_T_ofTerms_34 : decode b_T_ofTerms 34 = .ok (.invokevirtual 27, 3) := by decide +kernel
theorem d_T_ofTerms_37 : decode b_T_ofTerms 37 = .ok (.lreturn, 1) := by decide +kernel
theorem d_T_store_0 : decode b_T_store 0 = .ok (.aload_n 0, 1) := by decide +kernel
theorem d_T_store_1 : decode b_T_store 1 = .ok (.getfield 15, 3) := by decide +kernel
theorem d_T_store_4 : decode b_T_store 4 = .ok (.iload_n 1, 1) := by decide +kernel
theorem d_T_store_5 : decode b_T_store 5 = .ok (.aload_n 0, 1) := by decide +kernel
theorem d_T_store_6 : decode b_T_store 6 = .ok (.getfield 9, 3) := by decide +kernel
theorem d_T_store_9 : decode b_T_store 9 = .ok (.imul, 1) := by decide +kernel
theorem d_T_store_10 : decode b_T_store 10 = .ok (.iload_n 2, 1) := by decide +kernel
theorem d_T_store_11 : decode b_T_store 11 = .ok (.iadd, 1) := by decide +kernel
theorem d_T_store_12 : decode b_T_store 12 = .ok (.lload_n 3, 1) := by decide +kernel
theorem d_T_store_13 : decode b_T_store 13 = .ok (.lastore, 1) := by decide +kernel
theorem d_T_store_14 : decode b_T_store 14 = .ok (.aload_n 0, 1) := by decide +kernel
theorem d_T_store_15 : decode b_T_store 15 = .ok (.getfield 15, 3) := by decide +kernel
theorem d_T_store_18 : decode b_T_store 18 = .ok (.iload_n 2, 1) := by decide +kernel
theorem d_T_store_19 : decode b_T_store 19 = .ok (.aload_n 0, 1) := by decide +kernel
theorem d_T_store_20 : decode b_T_store 20 = .ok (.getfield 9, 3) := by decide +kernel
theorem d_T_store_23 : decode b_T_store 23 = .ok (.imul, 1) := by decide +kernel
theorem d_T_store_24 : decode b_T_store 24 = .ok (.iload_n 1, 1) := by decide +kernel
theorem d_T_store_25 : decode b_T_store 25 = .ok (.iadd, 1) := by decide +kernel
theorem d_T_store_26 : decode b_T_store 26 = .ok (.lload_n 3, 1) := by decide +kernel
theorem d_T_store_27 : decode b_T_store 27 = .ok (.lastore, 1) := by decide +kernel
theorem d_T_store_28 : decode b_T_store 28 = .ok (.return_, 1) := by decide +kernel
theorem d_T_lowerTo_0 : decode b_T_lowerTo 0 = .ok (.aload_n 0, 1) := by decide +kernel
theorem d_T_lowerTo_1 : decode b_T_lowerTo 1 = .ok (.iload_n 1, 1) := by decide +kernel
theorem d_T_lowerTo_2 : decode b_T_lowerTo 2 = .ok (.iload_n 2, 1) := by decide +kernel
theorem d_T_lowerTo_3 : decode b_T_lowerTo 3 = .ok (.aload_n 0, 1) := by decide +kernel
theorem d_T_lowerTo_4 : decode b_T_lowerTo 4 = .ok (.iload_n 1, 1) := by decide +kernel
theorem d_T_lowerTo_5 : decode b_T_lowerTo 5 = .ok (.iload_n 2, 1) := by decide +kernel
theorem d_T_lowerTo_6 : decode b_T_lowerTo 6 = .ok (.invokevirtual 27, 3) := by decide +kernel
theorem d_T_lowerTo_9 : decode b_T_lowerTo 9 = .ok (.lload_n 3, 1) := by decide +kernel
theorem d_T_lowerTo_10 : decode b_T_lowerTo 10 = .ok (.invokestatic 41, 3) := by decide +kernel
theorem d_T_lowerTo_13 : decode b_T_lowerTo 13 = .ok (.invokevirtual 47, 3) := by decide +kernel
theorem d_T_lowerTo_16 : decode b_T_lowerTo 16 = .ok (.return_, 1) := by decide +kernel
theorem d_T_takeFrom_0 : decode b_T_takeFrom 0 = .ok (.aload_n 1, 1) := by decide +kernel
theorem d_T_takeFrom_1 : decode b_T_takeFrom 1 = .ok (.getfield 15, 3) := by decide +kernel
theorem d_T_takeFrom_4 : decode b_T_takeFrom 4 = .ok (.iconst 0, 1) := by decide +kernel
theorem d_T_takeFrom_5 : decode b_T_takeFrom 5 = .ok (.aload_n 0, 1) := by decide +kernel
theorem d_T_takeFrom_6 : decode b_T_takeFrom 6 = .ok (.getfield 15, 3) := by decide +kernel
theorem d_T_takeFrom_9 : decode b_T_takeFrom 9 = .ok (.iconst 0, 1) := by decide +kernel
theorem d_T_takeFrom_10 : decode b_T_takeFrom 10 = .ok (.aload_n 0, 1) := by decide +kernel
theorem d_T_takeFrom_11 : decode b_T_takeFrom 11 = .ok (.getfield 15, 3) := by decide +kernel
theorem d_T_takeFrom_14 : decode b_T_takeFrom 14 = .ok (.arraylength, 1) := by decide +kernel
theorem d_T_takeFrom_15 : decode b_T_takeFrom 15 = .ok (.aload_n 1, 1) := by decide +kernel
theorem d_T_takeFrom_16 : decode b_T_takeFrom 16 = .ok (.getfield 15, 3) := by decide +kernel
theorem d_T_takeFrom_19 : decode b_T_takeFrom 19 = .ok (.arraylength, 1) := by decide +kernel
theorem d_T_takeFrom_20 : decode b_T_takeFrom 20 = .ok (.invokestatic 51, 3) := by decide +kernel
theorem d_T_takeFrom_23 : decode b_T_takeFrom 23 = .ok (.invokestatic 54, 3) := by decide +kernel
theorem d_T_takeFrom_26 : decode b_T_takeFrom 26 = .ok (.return_, 1) := by decide +kernel
theorem d_T_dropRows_0 : decode b_T_dropRows 0 = .ok (.aload_n 0, 1) := by decide +kernel
theorem d_T_dropRows_1 : decode b_T_dropRows 1 = .ok (.getfield 15, 3) := by decide +kernel
theorem d_T_dropRows_4 : decode b_T_dropRows 4 = .ok (.ldc2_w 19, 3) := by decide +kernel
theorem d_T_dropRows_7 : decode b_T_dropRows 7 = .ok (.invokestatic 21, 3) := by decide +kernel
theorem d_T_dropRows_10 : decode b_T_dropRows 10 = .ok (.return_, 1) := by decide +kernel
theorem d_T_storeOpposites_0 : decode b_T_storeOpposites 0 = .ok (.iconst 0, 1) := by decide +kernel
theorem d_T_storeOpposites_1 : decode b_T_storeOpposites 1 = .ok (.istore_n 3, 1) := by decide +kernel
theorem d_T_storeOpposites_2 : decode b_T_storeOpposites 2 = .ok (.iload_n 3, 1) := by decide +kernel
theorem d_T_storeOpposites_3 : decode b_T_storeOpposites 3 = .ok (.aload_n 0, 1) := by decide +kernel
theorem d_T_storeOpposites_4 : decode b_T_storeOpposites 4 = .ok (.getfield 9, 3) := by decide +kernel
theorem d_T_storeOpposites_7 : decode b_T_storeOpposites 7 = .ok (.if_icmp .ge 25, 3) := by decide +kernel
theorem d_T_storeOpposites_10 : decode b_T_storeOpposites 10 = .ok (.aload_n 0, 1) := by decide +kernel
theorem d_T_storeOpposites_11 : decode b_T_storeOpposites 11 = .ok (.getfield 15, 3) := by decide +kernel
theorem d_T_storeOpposites_14 : decode b_T_storeOpposites 14 = .ok (.iload_n 3, 1) := by decide +kernel
theorem d_T_storeOpposites_15 : decode b_T_storeOpposites 15 = .ok (.aload_n 0, 1) := by decide +kernel
theorem d_T_storeOpposites_16 : decode b_T_storeOpposites 16 = .ok (.getfield 9, 3) := by decide +kernel
theorem d_T_storeOpposites_19 : decode b_T_storeOpposites 19 = .ok (.imul, 1) := by decide +kernel
theorem d_T_storeOpposites_20 : decode b_T_storeOpposites 20 = .ok (.iload_n 3, 1) := by decide +kernel
theorem d_T_storeOpposites_21 : decode b_T_storeOpposites 21 = .ok (.iconst 1, 1) := by decide +kernel
theorem d_T_storeOpposites_22 : decode b_T_storeOpposites 22 = .ok (.ixor, 1) := by decide +kernel
theorem d_T_storeOpposites_23 : decode b_T_storeOpposites 23 = .ok (.iadd, 1) := by decide +kernel
theorem d_T_storeOpposites_24 : decode b_T_storeOpposites 24 = .ok (.lload_n 1, 1) := by decide +kernel
theorem d_T_storeOpposites_25 : decode b_T_storeOpposites 25 = .ok (.lastore, 1) := by decide +kernel
theorem d_T_storeOpposites_26 : decode b_T_storeOpposites 26 = .ok (.iinc 3 1, 3) := by decide +kernel
theorem d_T_storeOpposites_29 : decode b_T_storeOpposites 29 = .ok (.goto (-27), 3) := by decide +kernel
theorem d_T_storeOpposites_32 : decode b_T_storeOpposites 32 = .ok (.return_, 1) := by decide +kernel
theorem d_T_countRows_0 : decode b_T_countRows 0 = .ok (.iconst 0, 1) := by decide +kernel
theorem d_T_countRows_1 : decode b_T_countRows 1 = .ok (.istore_n 1, 1) := by decide +kernel
theorem d_T_countRows_2 : decode b_T_countRows 2 = .ok (.iconst 0, 1) := by decide +kernel
theorem d_T_countRows_3 : decode b_T_countRows 3 = .ok (.istore_n 2, 1) := by decide +kernel
theorem d_T_countRows_4 : decode b_T_countRows 4 = .ok (.iload_n 2, 1) := by decide +kernel
theorem d_T_countRows_5 : decode b_T_countRows 5 = .ok (.aload_n 0, 1) := by decide +kernel
theorem d_T_countRows_6 : decode b_T_countRows 6 = .ok (.getfield 9, 3) := by decide +kernel
theorem d_T_countRows_9 : decode b_T_countRows 9 = .ok (.if_icmp .ge 46, 3) := by decide +kernel
theorem d_T_countRows_12 : decode b_T_countRows 12 = .ok (.iload_n 2, 1) := by decide +kernel
theorem d_T_countRows_13 : decode b_T_countRows 13 = .ok (.istore_n 3, 1) := by decide +kernel
theorem d_T_countRows_14 : decode b_T_countRows 14 = .ok (.iload_n 3, 1) := by decide +kernel
theorem d_T_countRows_15 : decode b_T_countRows 15 = .ok (.aload_n 0, 1) := by decide +kernel
theorem d_T_countRows_16 : decode b_T_countRows 16 = .ok (.getfield 9, 3) := by decide +kernel
theorem d_T_countRows_19 : decode b_T_countRows 19 = .ok (.if_icmp .ge 30, 3) := by decide +kernel
theorem d_T_countRows_22 : decode b_T_countRows 22 = .ok (.iload_n 1, 1) := by decide +kernel
theorem d_T_countRows_23 : decode b_T_countRows 23 = .ok (.aload_n 0, 1) := by decide +kernel
theorem d_T_countRows_24 : decode b_T_countRows 24 = .ok (.iload_n 2, 1) := by decide +kernel
theorem d_T_countRows_25 : decode b_T_countRows 25 = .ok (.iload_n 3, 1) := by decide +kernel
theorem d_T_countRows_26 : decode b_T_countRows 26 = .ok (.invokevirtual 27, 3) := by decide +kernel
theorem d_T_countRows_29 : decode b_T_countRows 29 = .ok (.ldc2_w 19, 3) := by decide +kernel
theorem d_T_countRows_32 : decode b_T_countRows 32 = .ok (.lcmp, 1) := by decide +kernel
theorem d_T_countRows_33 : decode b_T_countRows 33 = .ok (.ifCond .ne 7, 3) := by decide +kernel
theorem d_T_countRows_36 : decode b_T_countRows 36 = .ok (.iconst 0, 1) := by decide +kernel
theorem d_T_countRows_37 : decode b_T_countRows 37 = .ok (.goto 4, 3) := by decide +kernel
theorem d_T_countRows_40 : decode b_T_countRows 40 = .ok (.iconst 1, 1) := by decide +kernel
theorem d_T_countRows_41 : decode b_T_countRows 41 = .ok (.iadd, 1) := by decide +kernel
theorem d_T_countRows_42 : decode b_T_countRows 42 = .ok (.istore_n 1, 1) := by decide +kernel
theorem d_T_countRows_43 : decode b_T_countRows 43 = .ok (.iinc 3 1, 3) := by decide +kernel
theorem d_T_countRows_46 : decode b_T_countRows 46 = .ok (.goto (-32), 3) := by decide +kernel
theorem d_T_countRows_49 : decode b_T_countRows 49 = .ok (.iinc 2 1, 3) := by decide +kernel
theorem d_T_countRows_52 : decode b_T_countRows 52 = .ok (.goto (-48), 3) := by decide +kernel
theorem d_T_countRows_55 : decode b_T_countRows 55 = .ok (.iload_n 1, 1) := by decide +kernel
theorem d_T_countRows_56 : decode b_T_countRows 56 = .ok (.ireturn, 1) := by decide +kernel
theorem d_T_isNowhereAbove_0 : decode b_T_isNowhereAbove 0 = .ok (.iconst 0, 1) := by decide +kernel
theorem d_T_isNowhereAbove_1 : decode b_T_isNowhereAbove 1 = .ok (.istore_n 2, 1) := by decide +kernel
theorem d_T_isNowhereAbove_2 : decode b_T_isNowhereAbove 2 = .ok (.iload_n 2, 1) := by decide +kernel
theorem d_T_isNowhereAbove_3 : decode b_T_isNowhereAbove 3 = .ok (.aload_n 0, 1) := by decide +kernel
theorem d_T_isNowhereAbove_4 : decode b_T_isNowhereAbove 4 = .ok (.getfield 9, 3) := by decide +kernel
theorem d_T_isNowhereAbove_7 : decode b_T_isNowhereAbove 7 = .ok (.if_icmp .ge 43, 3) := by decide +kernel
theorem d_T_isNowhereAbove_10 : decode b_T_isNowhereAbove 10 = .ok (.iload_n 2, 1) := by decide +kernel
theorem d_T_isNowhereAbove_11 : decode b_T_isNowhereAbove 11 = .ok (.istore_n 3, 1) := by decide +kernel
theorem d_T_isNowhereAbove_12 : decode b_T_isNowhereAbove 12 = .ok (.iload_n 3, 1) := by decide +kernel
theorem d_T_isNowhereAbove_13 : decode b_T_isNowhereAbove 13 = .ok (.aload_n 0, 1) := by decide +kernel
theorem d_T_isNowhereAbove_14 : decode b_T_isNowhereAbove 14 = .ok (.getfield 9, 3) := by decide +kernel
theorem d_T_isNowhereAbove_17 : decode b_T_isNowhereAbove 17 = .ok (.if_icmp .ge 27, 3) := by decide +kernel
theorem d_T_isNowhereAbove_20 : decode b_T_isNowhereAbove 20 = .ok (.aload_n 0, 1) := by decide +kernel
theorem d_T_isNowhereAbove_21 : decode b_T_isNowhereAbove 21 = .ok (.iload_n 2, 1) := by decide +kernel
theorem d_T_isNowhereAbove_22 : decode b_T_isNowhereAbove 22 = .ok (.iload_n 3, 1) := by decide +kernel
theorem d_T_isNowhereAbove_23 : decode b_T_isNowhereAbove 23 = .ok (.invokevirtual 27, 3) := by decide +kernel
theorem d_T_isNowhereAbove_26 : decode b_T_isNowhereAbove 26 = .ok (.aload_n 1, 1) := by decide +kernel
theorem d_T_isNowhereAbove_27 : decode b_T_isNowhereAbove 27 = .ok (.iload_n 2, 1) := by decide +kernel
theorem d_T_isNowhereAbove_28 : decode b_T_isNowhereAbove 28 = .ok (.iload_n 3, 1) := by decide +kernel
theorem d_T_isNowhereAbove_29 : decode b_T_isNowhereAbove 29 = .ok (.invokevirtual 27, 3) := by decide +kernel
theorem d_T_isNowhereAbove_32 : decode b_T_isNowhereAbove 32 = .ok (.lcmp, 1) := by decide +kernel
theorem d_T_isNowhereAbove_33 : decode b_T_isNowhereAbove 33 = .ok (.ifCond .le 5, 3) := by decide +kernel
theorem d_T_isNowhereAbove_36 : decode b_T_isNowhereAbove 36 = .ok (.iconst 0, 1) := by decide +kernel
theorem d_T_isNowhereAbove_37 : decode b_T_isNowhereAbove 37 = .ok (.ireturn, 1) := by decide +kernel
theorem d_T_isNowhereAbove_38 : decode b_T_isNowhereAbove 38 = .ok (.iinc 3 1, 3) := by decide +kernel
theorem d_T_isNowhereAbove_41 : decode b_T_isNowhereAbove 41 = .ok (.goto (-29), 3) := by decide +kernel
theorem d_T_isNowhereAbove_44 : decode b_T_isNowhereAbove 44 = .ok (.iinc 2 1, 3) := by decide +kernel
theorem d_T_isNowhereAbove_47 : decode b_T_isNowhereAbove 47 = .ok (.goto (-45), 3) := by decide +kernel
theorem d_T_isNowhereAbove_50 : decode b_T_isNowhereAbove 50 = .ok (.iconst 1, 1) := by decide +kernel
theorem d_T_isNowhereAbove_51 : decode b_T_isNowhereAbove 51 = .ok (.ireturn, 1) := by decide +kernel
theorem d_T_isTooFar_0 : decode b_T_isTooFar 0 = .ok (.iconst 0, 1) := by decide +kernel
theorem d_T_isTooFar_1 : decode b_T_isTooFar 1 = .ok (.istore_n 1, 1) := by decide +kernel
theorem d_T_isTooFar_2 : decode b_T_isTooFar 2 = .ok (.iload_n 1, 1) := by decide +kernel
theorem d_T_isTooFar_3 : decode b_T_isTooFar 3 = .ok (.aload_n 0, 1) := by decide +kernel
theorem d_T_isTooFar_4 : decode b_T_isTooFar 4 = .ok (.getfield 9, 3) := by decide +kernel
theorem d_T_isTooFar_7 : decode b_T_isTooFar 7 = .ok (.if_icmp .ge 71, 3) := by decide +kernel
theorem d_T_isTooFar_10 : decode b_T_isTooFar 10 = .ok (.iload_n 1, 1) := by decide +kernel
theorem d_T_isTooFar_11 : decode b_T_isTooFar 11 = .ok (.istore_n 2, 1) := by decide +kernel
theorem d_T_isTooFar_12 : decode b_T_isTooFar 12 = .ok (.iload_n 2, 1) := by decide +kernel
theorem d_T_isTooFar_13 : decode b_T_isTooFar 13 = .ok (.aload_n 0, 1) := by decide +kernel
theorem d_T_isTooFar_14 : decode b_T_isTooFar 14 = .ok (.getfield 9, 3) := by decide +kernel
theorem d_T_isTooFar_17 : decode b_T_isTooFar 17 = .ok (.if_icmp .ge 55, 3) := by decide +kernel
theorem d_T_isTooFar_20 : decode b_T_isTooFar 20 = .ok (.iload_n 1, 1) := by decide +kernel
theorem d_T_isTooFar_21 : decode b_T_isTooFar 21 = .ok (.iload_n 2, 1) := by decide +kernel
theorem d_T_isTooFar_22 : decode b_T_isTooFar 22 = .ok (.if_icmp .ne 11, 3) := by decide +kernel
theorem d_T_isTooFar_25 : decode b_T_isTooFar 25 = .ok (.aload_n 0, 1) := by decide +kernel
theorem d_T_isTooFar_26 : decode b_T_isTooFar 26 = .ok (.iload_n 1, 1) := by decide +kernel
theorem d_T_isTooFar_27 : decode b_T_isTooFar 27 = .ok (.invokevirtual 37, 3) := by decide +kernel
theorem d_T_isTooFar_30 : decode b_T_isTooFar 30 = .ok (.goto 9, 3) := by decide +kernel
theorem d_T_isTooFar_33 : decode b_T_isTooFar 33 = .ok (.aload_n 0, 1) := by decide +kernel
theorem d_T_isTooFar_34 : decode b_T_isTooFar 34 = .ok (.iload_n 1, 1) := by decide +kernel
theorem d_T_isTooFar_35 : decode b_T_isTooFar 35 = .ok (.iload_n 2, 1) := by decide +kernel
theorem d_T_isTooFar_36 : decode b_T_isTooFar 36 = .ok (.invokevirtual 27, 3) := by decide +kernel
theorem d_T_isTooFar_39 : decode b_T_isTooFar 39 = .ok (.lstore_n 3, 1) := by decide +kernel
theorem d_T_isTooFar_40 : decode b_T_isTooFar 40 = .ok (.lload_n 3, 1) := by decide +kernel
theorem d_T_isTooFar_41 : decode b_T_isTooFar 41 = .ok (.ldc2_w 19, 3) := by decide +kernel
theorem d_T_isTooFar_44 : decode b_T_isTooFar 44 = .ok (.lcmp, 1) := by decide +kernel
theorem d_T_isTooFar_45 : decode b_T_isTooFar 45 = .ok (.ifCond .eq 21, 3) := by decide +kernel
theorem d_T_isTooFar_48 : decode b_T_isTooFar 48 = .ok (.lload_n 3, 1) := by decide +kernel
theorem d_T_isTooFar_49 : decode b_T_isTooFar 49 = .ok (.ldc2_w 60, 3) := by decide +kernel
theorem d_T_isTooFar_52 : decode b_T_isTooFar 52 = .ok (.lcmp, 1) := by decide +kernel
theorem d_T_isTooFar_53 : decode b_T_isTooFar 53 = .ok (.ifCond .gt 11, 3) := by decide +kernel
theorem d_T_isTooFar_56 : decode b_T_isTooFar 56 = .ok (.lload_n 3, 1) := by decide +kernel
theorem d_T_isTooFar_57 : decode b_T_isTooFar 57 = .ok (.ldc2_w 62, 3) := by decide +kernel
theorem d_T_isTooFar_60 : decode b_T_isTooFar 60 = .ok (.lcmp, 1) := by decide +kernel
theorem d_T_isTooFar_61 : decode b_T_isTooFar 61 = .ok (.ifCond .ge 5, 3) := by decide +kernel
theorem d_T_isTooFar_64 : decode b_T_isTooFar 64 = .ok (.iconst 1, 1) := by decide +kernel
theorem d_T_isTooFar_65 : decode b_T_isTooFar 65 = .ok (.ireturn, 1) := by decide +kernel
theorem d_T_isTooFar_66 : decode b_T_isTooFar 66 = .ok (.iinc 2 1, 3) := by decide +kernel
theorem d_T_isTooFar_69 : decode b_T_isTooFar 69 = .ok (.goto (-57), 3) := by decide +kernel
theorem d_T_isTooFar_72 : decode b_T_isTooFar 72 = .ok (.iinc 1 1, 3) := by decide +kernel
theorem d_T_isTooFar_75 : decode b_T_isTooFar 75 = .ok (.goto (-73), 3) := by decide +kernel
theorem d_T_isTooFar_78 : decode b_T_isTooFar 78 = .ok (.iconst 0, 1) := by decide +kernel
theorem d_T_isTooFar_79 : decode b_T_isTooFar 79 = .ok (.ireturn, 1) := by decide +kernel
theorem d_T_close_0 : decode b_T_close 0 = .ok (.aload_n 0, 1) := by decide +kernel
theorem d_T_close_1 : decode b_T_close 1 = .ok (.lconst 0, 1) := by decide +kernel
theorem d_T_close_2 : decode b_T_close 2 = .ok (.invokevirtual 64, 3) := by decide +kernel
theorem d_T_close_5 : decode b_T_close 5 = .ok (.iconst 0, 1) := by decide +kernel
theorem d_T_close_6 : decode b_T_close 6 = .ok (.istore_n 1, 1) := by decide +kernel
theorem d_T_close_7 : decode b_T_close 7 = .ok (.iload_n 1, 1) := by decide +kernel
theorem d_T_close_8 : decode b_T_close 8 = .ok (.aload_n 0, 1) := by decide +kernel
theorem d_T_close_9 : decode b_T_close 9 = .ok (.getfield 9, 3) := by decide +kernel
theorem d_T_close_12 : decode b_T_close 12 = .ok (.if_icmp .ge 23, 3) := by decide +kernel
theorem d_T_close_15 : decode b_T_close 15 = .ok (.aload_n 0, 1) := by decide +kernel
theorem d_T_close_16 : decode b_T_close 16 = .ok (.iload_n 1, 1) := by decide +kernel
theorem d_T_close_17 : decode b_T_close 17 = .ok (.invokevirtual 68, 3) := by decide +kernel
theorem d_T_close_20 : decode b_T_close 20 = .ok (.aload_n 0, 1) := by decide +kernel
theorem d_T_close_21 : decode b_T_close 21 = .ok (.invokevirtual 72, 3) := by decide +kernel
theorem d_T_close_24 : decode b_T_close 24 = .ok (.ifCond .eq 5, 3) := by decide +kernel
theorem d_T_close_27 : decode b_T_close 27 = .ok (.iconst 0, 1) := by decide +kernel
theorem d_T_close_28 : decode b_T_close 28 = .ok (.ireturn, 1) := by decide +kernel
theorem d_T_close_29 : decode b_T_close 29 = .ok (.iinc 1 1, 3) := by decide +kernel
theorem d_T_close_32 : decode b_T_close 32 = .ok (.goto (-25), 3) := by decide +kernel
theorem d_T_close_35 : decode b_T_close 35 = .ok (.aload_n 0, 1) := by decide +kernel
theorem d_T_close_36 : decode b_T_close 36 = .ok (.invokevirtual 76, 3) := by decide +kernel
theorem d_T_close_39 : decode b_T_close 39 = .ok (.aload_n 0, 1) := by decide +kernel
theorem d_T_close_40 : decode b_T_close 40 = .ok (.invokevirtual 79, 3) := by decide +kernel
theorem d_T_close_43 : decode b_T_close 43 = .ok (.ifCond .eq 5, 3) := by decide +kernel
theorem d_T_close_46 : decode b_T_close 46 = .ok (.iconst 0, 1) := by decide +kernel
theorem d_T_close_47 : decode b_T_close 47 = .ok (.ireturn, 1) := by decide +kernel
theorem d_T_close_48 : decode b_T_close 48 = .ok (.aload_n 0, 1) := by decide +kernel
theorem d_T_close_49 : decode b_T_close 49 = .ok (.invokevirtual 82, 3) := by decide +kernel
theorem d_T_close_52 : decode b_T_close 52 = .ok (.iconst 1, 1) := by decide +kernel
theorem d_T_close_53 : decode b_T_close 53 = .ok (.ireturn, 1) := by decide +kernel
theorem d_T_chainThrough_0 : decode b_T_chainThrough 0 = .ok (.iload_n 1, 1) := by decide +kernel
theorem d_T_chainThrough_1 : decode b_T_chainThrough 1 = .ok (.iconst 1, 1) := by decide +kernel
theorem d_T_chainThrough_2 : decode b_T_chainThrough 2 = .ok (.ixor, 1) := by decide +kernel
theorem d_T_chainThrough_3 : decode b_T_chainThrough 3 = .ok (.aload_n 0, 1) := by decide +kernel
theorem d_T_chainThrough_4 : decode b_T_chainThrough 4 = .ok (.getfield 9, 3) := by decide +kernel
theorem d_T_chainThrough_7 : decode b_T_chainThrough 7 = .ok (.imul, 1) := by decide +kernel
theorem d_T_chainThrough_8 : decode b_T_chainThrough 8 = .ok (.istore_n 2, 1) := by decide +kernel
theorem d_T_chainThrough_9 : decode b_T_chainThrough 9 = .ok (.iconst 0, 1) := by decide +kernel
theorem d_T_chainThrough_10 : decode b_T_chainThrough 10 = .ok (.istore_n 3, 1) := by decide +kernel
theorem d_T_chainThrough_11 : decode b_T_chainThrough 11 = .ok (.iload_n 3, 1) := by decide +kernel
theorem d_T_chainThrough_12 : decode b_T_chainThrough 12 = .ok (.aload_n 0, 1) := by decide +kernel
theorem d_T_chainThrough_13 : decode b_T_chainThrough 13 = .ok (.getfield 9, 3) := by decide +kernel
theorem d_T_chainThrough_16 : decode b_T_chainThrough 16 = .ok (.if_icmp .ge 112, 3) := by decide +kernel
theorem d_T_chainThrough_19 : decode b_T_chainThrough 19 = .ok (.iload_n 3, 1) := by decide +kernel
theorem d_T_chainThrough_20 : decode b_T_chainThrough 20 = .ok (.aload_n 0, 1) := by decide +kernel
theorem d_T_chainThrough_21 : decode b_T_chainThrough 21 = .ok (.getfield 9, 3) := by decide +kernel
theorem d_T_chainThrough_24 : decode b_T_chainThrough 24 = .ok (.imul, 1) := by decide +kernel
theorem d_T_chainThrough_25 : decode b_T_chainThrough 25 = .ok (.istore 4, 2) := by decide +kernel
theorem d_T_chainThrough_27 : decode b_T_chainThrough 27 = .ok (.aload_n 0, 1) := by decide +kernel
theorem d_T_chainThrough_28 : decode b_T_chainThrough 28 = .ok (.getfield 15, 3) := by decide +kernel
theorem d_T_chainThrough_31 : decode b_T_chainThrough 31 = .ok (.iload 4, 2) := by decide +kernel
theorem d_T_chainThrough_33 : decode b_T_chainThrough 33 = .ok (.iload_n 1, 1) := by decide +kernel
theorem d_T_chainThrough_34 : decode b_T_chainThrough 34 = .ok (.iadd, 1) := by decide +kernel
theorem d_T_chainThrough_35 : decode b_T_chainThrough 35 = .ok (.laload, 1) := by decide +kernel
theorem d_T_chainThrough_36 : decode b_T_chainThrough 36 = .ok (.lstore 5, 2) := by decide +kernel
theorem d_T_chainThrough_38 : decode b_T_chainThrough 38 = .ok (.lload 5, 2) := by decide +kernel
theorem d_T_chainThrough_40 : decode b_T_chainThrough 40 = .ok (.ldc2_w 19, 3) := by decide +kernel
theorem d_T_chainThrough_43 : decode b_T_chainThrough 43 = .ok (.lcmp, 1) := by decide +kernel
theorem d_T_chainThrough_44 : decode b_T_chainThrough 44 = .ok (.ifCond .ne 6, 3) := by decide +kernel
theorem d_T_chainThrough_47 : decode b_T_chainThrough 47 = .ok (.goto 75, 3) := by decide +kernel
theorem d_T_chainThrough_50 : decode b_T_chainThrough 50 = .ok (.iconst 0, 1) := by decide +kernel
theorem d_T_chainThrough_51 : decode b_T_chainThrough 51 = .ok (.istore 7, 2) := by decide +kernel
theorem d_T_chainThrough_53 : decode b_T_chainThrough 53 = .ok (.iload 7, 2) := by decide +kernel
theorem d_T_chainThrough_55 : decode b_T_chainThrough 55 = .ok (.aload_n 0, 1) := by decide +kernel
theorem d_T_chainThrough_56 : decode b_T_chainThrough 56 = .ok (.getfield 9, 3) := by decide +kernel
theorem d_T_chainThrough_59 : decode b_T_chainThrough 59 = .ok (.if_icmp .ge 63, 3) := by decide +kernel
theorem d_T_chainThrough_62 : decode b_T_chainThrough 62 = .ok (.aload_n 0, 1) := by decide +kernel
theorem d_T_chainThrough_63 : decode b_T_chainThrough 63 = .ok (.getfield 15, 3) := by decide +kernel
theorem d_T_chainThrough_66 : decode b_T_chainThrough 66 = .ok (.iload_n 2, 1) := by decide +kernel
theorem d_T_chainThrough_67 : decode b_T_chainThrough 67 = .ok (.iload 7, 2) := by decide +kernel
theorem d_T_chainThrough_69 : decode b_T_chainThrough 69 = .ok (.iadd, 1) := by decide +kernel
theorem d_T_chainThrough_70 : decode b_T_chainThrough 70 = .ok (.laload, 1) := by decide +kernel
theorem d_T_chainThrough_71 : decode b_T_chainThrough 71 = .ok (.lstore 8, 2) := by decide +kernel
theorem d_T_chainThrough_73 : decode b_T_chainThrough 73 = .ok (.lload 8, 2) := by decide +kernel
theorem d_T_chainThrough_75 : decode b_T_chainThrough 75 = .ok (.ldc2_w 19, 3) := by decide +kernel
theorem d_T_chainThrough_78 : decode b_T_chainThrough 78 = .ok (.lcmp, 1) := by decide +kernel
theorem d_T_chainThrough_79 : decode b_T_chainThrough 79 = .ok (.ifCond .eq 37, 3) := by decide +kernel
theorem d_T_chainThrough_82 : decode b_T_chainThrough 82 = .ok (.lload 5, 2) := by decide +kernel
theorem d_T_chainThrough_84 : decode b_T_chainThrough 84 = .ok (.lload 8, 2) := by decide +kernel
theorem d_T_chainThrough_86 : decode b_T_chainThrough 86 = .ok (.ladd, 1) := by decide +kernel
theorem d_T_chainThrough_87 : decode b_T_chainThrough 87 = .ok (.aload_n 0, 1) := by decide +kernel
theorem d_T_chainThrough_88 : decode b_T_chainThrough 88 = .ok (.getfield 15, 3) := by decide +kernel
theorem d_T_chainThrough_91 : decode b_T_chainThrough 91 = .ok (.iload 4, 2) := by decide +kernel
theorem d_T_chainThrough_93 : decode b_T_chainThrough 93 = .ok (.iload 7, 2) := by decide +kernel
theorem d_T_chainThrough_95 : decode b_T_chainThrough 95 = .ok (.iadd, 1) := by decide +kernel
theorem d_T_chainThrough_96 : decode b_T_chainThrough 96 = .ok (.laload, 1) := by decide +kernel
theorem d_T_chainThrough_97 : decode b_T_chainThrough 97 = .ok (.lcmp, 1) := by decide +kernel
theorem d_T_chainThrough_98 : decode b_T_chainThrough 98 = .ok (.ifCond .ge 18, 3) := by decide +kernel
theorem d_T_chainThrough_101 : decode b_T_chainThrough 101 = .ok (.aload_n 0, 1) := by decide +kernel
theorem d_T_chainThrough_102 : decode b_T_chainThrough 102 = .ok (.getfield 15, 3) := by decide +kernel
theorem d_T_chainThrough_105 : decode b_T_chainThrough 105 = .ok (.iload 4, 2) := by decide +kernel
theorem d_T_chainThrough_107 : decode b_T_chainThrough 107 = .ok (.iload 7, 2) := by decide +kernel
theorem d_T_chainThrough_109 : decode b_T_chainThrough 109 = .ok (.iadd, 1) := by decide +kernel
theorem d_T_chainThrough_110 : decode b_T_chainThrough 110 = .ok (.lload 5, 2) := by decide +kernel
theorem d_T_chainThrough_112 : decode b_T_chainThrough 112 = .ok (.lload 8, 2) := by decide +kernel
theorem d_T_chainThrough_114 : decode b_T_chainThrough 114 = .ok (.ladd, 1) := by decide +kernel
theorem d_T_chainThrough_115 : decode b_T_chainThrough 115 = .ok (.lastore, 1) := by decide +kernel
theorem d_T_chainThrough_116 : decode b_T_chainThrough 116 = .ok (.iinc 7 1, 3) := by decide +kernel
theorem d_T_chainThrough_119 : decode b_T_chainThrough 119 = .ok (.goto (-66), 3) := by decide +kernel
theorem d_T_chainThrough_122 : decode b_T_chainThrough 122 = .ok (.iinc 3 1, 3) := by decide +kernel
theorem d_T_chainThrough_125 : decode b_T_chainThrough 125 = .ok (.goto (-114), 3) := by decide +kernel
theorem d_T_chainThrough_128 : decode b_T_chainThrough 128 = .ok (.return_, 1) := by decide +kernel
theorem d_T_hasOppositesBelowZero_0 : decode b_T_hasOppositesBelowZero 0 = .ok (.iconst 0, 1) := by decide +kernel
theorem d_T_hasOppositesBelowZero_1 : decode b_T_hasOppositesBelowZero 1 = .ok (.istore_n 1, 1) := by decide +kernel
theorem d_T_hasOppositesBelowZero_2 : decode b_T_hasOppositesBelowZero 2 = .ok (.iload_n 1, 1) := by decide +kernel
theorem d_T_hasOppositesBelowZero_3 : decode b_T_hasOppositesBelowZero 3 = .ok (.aload_n 0, 1) := by decide +kernel
theorem d_T_hasOppositesBelowZero_4 : decode b_T_hasOppositesBelowZero 4 = .ok (.getfield 9, 3) := by decide +kernel
theorem d_T_hasOppositesBelowZero_7 : decode b_T_hasOppositesBelowZero 7 = .ok (.if_icmp .ge 24, 3) := by decide +kernel
theorem d_T_hasOppositesBelowZero_10 : decode b_T_hasOppositesBelowZero 10 = .ok (.aload_n 0, 1) := by decide +kernel
theorem d_T_hasOppositesBelowZero_11 : decode b_T_hasOppositesBelowZero 11 = .ok (.iload_n 1, 1) := by decide +kernel
theorem d_T_hasOppositesBelowZero_12 : decode b_T_hasOppositesBelowZero 12 = .ok (.iload_n 1, 1) := by decide +kernel
theorem d_T_hasOppositesBelowZero_13 : decode b_T_hasOppositesBelowZero 13 = .ok (.iconst 1, 1) := by decide +kernel
theorem d_T_hasOppositesBelowZero_14 : decode b_T_hasOppositesBelowZero 14 = .ok (.ixor, 1) := by decide +kernel
theorem d_T_hasOppositesBelowZero_15 : decode b_T_hasOppositesBelowZero 15 = .ok (.invokevirtual 27, 3) := by decide +kernel
theorem d_T_hasOppositesBelowZero_18 : decode b_T_hasOppositesBelowZero 18 = .ok (.lconst 0, 1) := by decide +kernel
theorem d_T_hasOppositesBelowZero_19 : decode b_T_hasOppositesBelowZero 19 = .ok (.lcmp, 1) := by decide +kernel
theorem d_T_hasOppositesBelowZero_20 : decode b_T_hasOppositesBelowZero 20 = .ok (.ifCond .ge 5, 3) := by decide +kernel
theorem d_T_hasOppositesBelowZero_23 : decode b_T_hasOppositesBelowZero 23 = .ok (.iconst 1, 1) := by decide +kernel
theorem d_T_hasOppositesBelowZero_24 : decode b_T_hasOppositesBelowZero 24 = .ok (.ireturn, 1) := by decide +kernel
theorem d_T_hasOppositesBelowZero_25 : decode b_T_hasOppositesBelowZero 25 = .ok (.iinc 1 1, 3) := by decide +kernel
theorem d_T_hasOppositesBelowZero_28 : decode b_T_hasOppositesBelowZero 28 = .ok (.goto (-26), 3) := by decide +kernel
theorem d_T_hasOppositesBelowZero_31 : decode b_T_hasOppositesBelowZero 31 = .ok (.iconst 0, 1) := by decide +kernel
theorem d_T_hasOppositesBelowZero_32 : decode b_T_hasOppositesBelowZero 32 = .ok (.ireturn, 1) := by decide +kernel
theorem d_T_cutToEven_0 : decode b_T_cutToEven 0 = .ok (.iconst 0, 1) := by decide +kernel
theorem d_T_cutToEven_1 : decode b_T_cutToEven 1 = .ok (.istore_n 1, 1) := by decide +kernel
theorem d_T_cutToEven_2 : decode b_T_cutToEven 2 = .ok (.iload_n 1, 1) := by decide +kernel
theorem d_T_cutToEven_3 : decode b_T_cutToEven 3 = .ok (.aload_n 0, 1) := by decide +kernel
theorem d_T_cutToEven_4 : decode b_T_cutToEven 4 = .ok (.getfield 9, 3) := by decide +kernel
theorem d_T_cutToEven_7 : decode b_T_cutToEven 7 = .ok (.if_icmp .ge 44, 3) := by decide +kernel
theorem d_T_cutToEven_10 : decode b_T_cutToEven 10 = .ok (.aload_n 0, 1) := by decide +kernel
theorem d_T_cutToEven_11 : decode b_T_cutToEven 11 = .ok (.iload_n 1, 1) := by decide +kernel
theorem d_T_cutToEven_12 : decode b_T_cutToEven 12 = .ok (.iload_n 1, 1) := by decide +kernel
theorem d_T_cutToEven_13 : decode b_T_cutToEven 13 = .ok (.invokevirtual 27, 3) := by decide +kernel
theorem d_T_cutToEven_16 : decode b_T_cutToEven 16 = .ok (.ldc2_w 19, 3) := by decide +kernel
theorem d_T_cutToEven_19 : decode b_T_cutToEven 19 = .ok (.lcmp, 1) := by decide +kernel
theorem d_T_cutToEven_20 : decode b_T_cutToEven 20 = .ok (.ifCond .eq 25, 3) := by decide +kernel
theorem d_T_cutToEven_23 : decode b_T_cutToEven 23 = .ok (.aload_n 0, 1) := by decide +kernel
theorem d_T_cutToEven_24 : decode b_T_cutToEven 24 = .ok (.iload_n 1, 1) := by decide +kernel
theorem d_T_cutToEven_25 : decode b_T_cutToEven 25 = .ok (.iload_n 1, 1) := by decide +kernel
theorem d_T_cutToEven_26 : decode b_T_cutToEven 26 = .ok (.ldc2_w 31, 3) := by decide +kernel
theorem d_T_cutToEven_29 : decode b_T_cutToEven 29 = .ok (.aload_n 0, 1) := by decide +kernel
theorem d_T_cutToEven_30 : decode b_T_cutToEven 30 = .ok (.iload_n 1, 1) := by decide +kernel
theorem d_T_cutToEven_31 : decode b_T_cutToEven 31 = .ok (.iload_n 1, 1) := by decide +kernel
theorem d_T_cutToEven_32 : decode b_T_cutToEven 32 = .ok (.invokevirtual 27, 3) := by decide +kernel
theorem d_T_cutToEven_35 : decode b_T_cutToEven 35 = .ok (.ldc2_w 31, 3) := by decide +kernel
theorem d_T_cutToEven_38 : decode b_T_cutToEven 38 = .ok (.invokestatic 85, 3) := by decide +kernel
theorem d_T_cutToEven_41 : decode b_T_cutToEven 41 = .ok (.lmul, 1) := by decide +kernel
theorem d_T_cutToEven_42 : decode b_T_cutToEven 42 = .ok (.invokevirtual 47, 3) := by decide +kernel
theorem d_T_cutToEven_45 : decode b_T_cutToEven 45 = .ok (.iinc 1 1, 3) := by decide +kernel
theorem d_T_cutToEven_48 : decode b_T_cutToEven 48 = .ok (.goto (-46), 3) := by decide +kernel
theorem d_T_cutToEven_51 : decode b_T_cutToEven 51 = .ok (.return_, 1) := by decide +kernel
theorem d_T_hasTwicesThatContradict_0 : decode b_T_hasTwicesThatContradict 0 = .ok (.iconst 0, 1) := by decide +kernel
theorem d_T_hasTwicesThatContradict_1 : decode b_T_hasTwicesThatContradict 1 = .ok (.istore_n 1, 1) := by decide +kernel
theorem d_T_hasTwicesThatContradict_2 : decode b_T_hasTwicesThatContradict 2 = .ok (.iload_n 1, 1) := by decide +kernel
theorem d_T_hasTwicesThatContradict_3 : decode b_T_hasTwicesThatContradict 3 = .ok (.aload_n 0, 1) := by decide +kernel
theorem d_T_hasTwicesThatContradict_4 : decode b_T_hasTwicesThatContradict 4 = .ok (.getfield 9, 3) := by decide +kernel
theorem d_T_hasTwicesThatContradict_7 : decode b_T_hasTwicesThatContradict 7 = .ok (.if_icmp .ge 35, 3) := by decide +kernel
theorem d_T_hasTwicesThatContradict_10 : decode b_T_hasTwicesThatContradict 10 = .ok (.aload_n 0, 1) := by decide +kernel
theorem d_T_hasTwicesThatContradict_11 : decode b_T_hasTwicesThatContradict 11 = .ok (.iload_n 1, 1) := by decide +kernel
theorem d_T_hasTwicesThatContradict_12 : decode b_T_hasTwicesThatContradict 12 = .ok (.iload_n 1, 1) := by decide +kernel
theorem d_T_hasTwicesThatContradict_13 : decode b_T_hasTwicesThatContradict 13 = .ok (.invokevirtual 27, 3) := by decide +kernel
theorem d_T_hasTwicesThatContradict_16 : decode b_T_hasTwicesThatContradict 16 = .ok (.aload_n 0, 1) := by decide +kernel
theorem d_T_hasTwicesThatContradict_17 : decode b_T_hasTwicesThatContradict 17 = .ok (.iload_n 1, 1) := by decide +kernel
theorem d_T_hasTwicesThatContradict_18 : decode b_T_hasTwicesThatContradict 18 = .ok (.iconst 1, 1) := by decide +kernel
theorem d_T_hasTwicesThatContradict_19 : decode b_T_hasTwicesThatContradict 19 = .ok (.ixor, 1) := by decide +kernel
theorem d_T_hasTwicesThatContradict_20 : decode b_T_hasTwicesThatContradict 20 = .ok (.iload_n 1, 1) := by decide +kernel
theorem d_T_hasTwicesThatContradict_21 : decode b_T_hasTwicesThatContradict 21 = .ok (.iconst 1, 1) := by decide +kernel
theorem d_T_hasTwicesThatContradict_22 : decode b_T_hasTwicesThatContradict 22 = .ok (.ixor, 1) := by decide +kernel
theorem d_T_hasTwicesThatContradict_23 : decode b_T_hasTwicesThatContradict 23 = .ok (.invokevirtual 27, 3) := by decide +kernel
theorem d_T_hasTwicesThatContradict_26 : decode b_T_hasTwicesThatContradict 26 = .ok (.invokestatic 88, 3) := by decide +kernel
theorem d_T_hasTwicesThatContradict_29 : decode b_T_hasTwicesThatContradict 29 = .ok (.lconst 0, 1) := by decide +kernel
theorem d_T_hasTwicesThatContradict_30 : decode b_T_hasTwicesThatContradict 30 = .ok (.lcmp, 1) := by decide +kernel
theorem d_T_hasTwicesThatContradict_31 : decode b_T_hasTwicesThatContradict 31 = .ok (.ifCond .ge 5, 3) := by decide +kernel
theorem d_T_hasTwicesThatContradict_34 : decode b_T_hasTwicesThatContradict 34 = .ok (.iconst 1, 1) := by decide +kernel
theorem d_T_hasTwicesThatContradict_35 : decode b_T_hasTwicesThatContradict 35 = .ok (.ireturn, 1) := by decide +kernel
theorem d_T_hasTwicesThatContradict_36 : decode b_T_hasTwicesThatContradict 36 = .ok (.iinc 1 1, 3) := by decide +kernel
theorem d_T_hasTwicesThatContradict_39 : decode b_T_hasTwicesThatContradict 39 = .ok (.goto (-37), 3) := by decide +kernel
theorem d_T_hasTwicesThatContradict_42 : decode b_T_hasTwicesThatContradict 42 = .ok (.iconst 0, 1) := by decide +kernel
theorem d_T_hasTwicesThatContradict_43 : decode b_T_hasTwicesThatContradict 43 = .ok (.ireturn, 1) := by decide +kernel
theorem d_T_addHalves_0 : decode b_T_addHalves 0 = .ok (.iconst 0, 1) := by decide +kernel
theorem d_T_addHalves_1 : decode b_T_addHalves 1 = .ok (.istore_n 1, 1) := by decide +kernel
theorem d_T_addHalves_2 : decode b_T_addHalves 2 = .ok (.iload_n 1, 1) := by decide +kernel
theorem d_T_addHalves_3 : decode b_T_addHalves 3 = .ok (.aload_n 0, 1) := by decide +kernel
theorem d_T_addHalves_4 : decode b_T_addHalves 4 = .ok (.getfield 9, 3) := by decide +kernel
theorem d_T_addHalves_7 : decode b_T_addHalves 7 = .ok (.if_icmp .ge 46, 3) := by decide +kernel
theorem d_T_addHalves_10 : decode b_T_addHalves 10 = .ok (.iload_n 1, 1) := by decide +kernel
theorem d_T_addHalves_11 : decode b_T_addHalves 11 = .ok (.iconst 1, 1) := by decide +kernel
theorem d_T_addHalves_12 : decode b_T_addHalves 12 = .ok (.iadd, 1) := by decide +kernel
theorem d_T_addHalves_13 : decode b_T_addHalves 13 = .ok (.istore_n 2, 1) := by decide +kernel
theorem d_T_addHalves_14 : decode b_T_addHalves 14 = .ok (.iload_n 2, 1) := by decide +kernel
theorem d_T_addHalves_15 : decode b_T_addHalves 15 = .ok (.aload_n 0, 1) := by decide +kernel
theorem d_T_addHalves_16 : decode b_T_addHalves 16 = .ok (.getfield 9, 3) := by decide +kernel
theorem d_T_addHalves_19 : decode b_T_addHalves 19 = .ok (.if_icmp .ge 28, 3) := by decide +kernel
theorem d_T_addHalves_22 : decode b_T_addHalves 22 = .ok (.aload_n 0, 1) := by decide +kernel
theorem d_T_addHalves_23 : decode b_T_addHalves 23 = .ok (.iload_n 1, 1) := by decide +kernel
theorem d_T_addHalves_24 : decode b_T_addHalves 24 = .ok (.iload_n 2, 1) := by decide +kernel
theorem d_T_addHalves_25 : decode b_T_addHalves 25 = .ok (.aload_n 0, 1) := by decide +kernel
theorem d_T_addHalves_26 : decode b_T_addHalves 26 = .ok (.iload_n 1, 1) := by decide +kernel
theorem d_T_addHalves_27 : decode b_T_addHalves 27 = .ok (.invokevirtual 37, 3) := by decide +kernel
theorem d_T_addHalves_30 : decode b_T_addHalves 30 = .ok (.aload_n 0, 1) := by decide +kernel
theorem d_T_addHalves_31 : decode b_T_addHalves 31 = .ok (.iload_n 2, 1) := by decide +kernel
theorem d_T_addHalves_32 : decode b_T_addHalves 32 = .ok (.invokevirtual 37, 3) := by decide +kernel
theorem d_T_addHalves_35 : decode b_T_addHalves 35 = .ok (.invokestatic 88, 3) := by decide +kernel
theorem d_T_addHalves_38 : decode b_T_addHalves 38 = .ok (.invokevirtual 91, 3) := by decide +kernel
theorem d_T_addHalves_41 : decode b_T_addHalves 41 = .ok (.iinc 2 1, 3) := by decide +kernel
theorem d_T_addHalves_44 : decode b_T_addHalves 44 = .ok (.goto (-30), 3) := by decide +kernel
theorem d_T_addHalves_47 : decode b_T_addHalves 47 = .ok (.iinc 1 1, 3) := by decide +kernel
theorem d_T_addHalves_50 : decode b_T_addHalves 50 = .ok (.goto (-48), 3) := by decide +kernel
theorem d_T_addHalves_53 : decode b_T_addHalves 53 = .ok (.return_, 1) := by decide +kernel
theorem d_JM_floorDiv_0 : decode b_JM_floorDiv 0 = .ok (.lload_n 0, 1) := by decide +kernel
theorem d_JM_floorDiv_1 : decode b_JM_floorDiv 1 = .ok (.lload_n 2, 1) := by decide +kernel
theorem d_JM_floorDiv_2 : decode b_JM_floorDiv 2 = .ok (.ldiv, 1) := by decide +kernel
theorem d_JM_floorDiv_3 : decode b_JM_floorDiv 3 = .ok (.lstore 4, 2) := by decide +kernel
theorem d_JM_floorDiv_5 : decode b_JM_floorDiv 5 = .ok (.lload_n 0, 1) := by decide +kernel
theorem d_JM_floorDiv_6 : decode b_JM_floorDiv 6 = .ok (.lload_n 2, 1) := by decide +kernel
theorem d_JM_floorDiv_7 : decode b_JM_floorDiv 7 = .ok (.lxor, 1) := by decide +kernel
theorem d_JM_floorDiv_8 : decode b_JM_floorDiv 8 = .ok (.lconst 0, 1) := by decide +kernel
theorem d_JM_floorDiv_9 : decode b_JM_floorDiv 9 = .ok (.lcmp, 1) := by decide +kernel
theorem d_JM_floorDiv_10 : decode b_JM_floorDiv 10 = .ok (.ifCond .ge 17, 3) := by decide +kernel
theorem d_JM_floorDiv_13 : decode b_JM_floorDiv 13 = .ok (.lload 4, 2) := by decide +kernel
theorem d_JM_floorDiv_15 : decode b_JM_floorDiv 15 = .ok (.lload_n 2, 1) := by decide +kernel
theorem d_JM_floorDiv_16 : decode b_JM_floorDiv 16 = .ok (.lmul, 1) := by decide +kernel
theorem d_JM_floorDiv_17 : decode b_JM_floorDiv 17 = .ok (.lload_n 0, 1) := by decide +kernel
theorem d_JM_floorDiv_18 : decode b_JM_floorDiv 18 = .ok (.lcmp, 1) := by decide +kernel
theorem d_JM_floorDiv_19 : decode b_JM_floorDiv 19 = .ok (.ifCond .eq 8, 3) := by decide +kernel
theorem d_JM_floorDiv_22 : decode b_JM_floorDiv 22 = .ok (.lload 4, 2) := by decide +kernel
theorem d_JM_floorDiv_24 : decode b_JM_floorDiv 24 = .ok (.lconst 1, 1) := by decide +kernel
theorem d_JM_floorDiv_25 : decode b_JM_floorDiv 25 = .ok (.lsub, 1) := by decide +kernel
theorem d_JM_floorDiv_26 : decode b_JM_floorDiv 26 = .ok (.lreturn, 1) := by decide +kernel
theorem d_JM_floorDiv_27 : decode b_JM_floorDiv 27 = .ok (.lload 4, 2) := by decide +kernel
theorem d_JM_floorDiv_29 : decode b_JM_floorDiv 29 = .ok (.lreturn, 1) := by decide +kernel
theorem d_JM_max_0 : decode b_JM_max 0 = .ok (.iload_n 0, 1) := by decide +kernel
theorem d_JM_max_1 : decode b_JM_max 1 = .ok (.iload_n 1, 1) := by decide +kernel
theorem d_JM_max_2 : decode b_JM_max 2 = .ok (.if_icmp .lt 7, 3) := by decide +kernel
theorem d_JM_max_5 : decode b_JM_max 5 = .ok (.iload_n 0, 1) := by decide +kernel
theorem d_JM_max_6 : decode b_JM_max 6 = .ok (.goto 4, 3) := by decide +kernel
theorem d_JM_max_9 : decode b_JM_max 9 = .ok (.iload_n 1, 1) := by decide +kernel
theorem d_JM_max_10 : decode b_JM_max 10 = .ok (.ireturn, 1) := by decide +kernel
theorem d_JM_max_JJJ_0 : decode b_JM_max_JJJ 0 = .ok (.lload_n 0, 1) := by decide +kernel
theorem d_JM_max_JJJ_1 : decode b_JM_max_JJJ 1 = .ok (.lload_n 2, 1) := by decide +kernel
theorem d_JM_max_JJJ_2 : decode b_JM_max_JJJ 2 = .ok (.lcmp, 1) := by decide +kernel
theorem d_JM_max_JJJ_3 : decode b_JM_max_JJJ 3 = .ok (.ifCond .lt 7, 3) := by decide +kernel
theorem d_JM_max_JJJ_6 : decode b_JM_max_JJJ 6 = .ok (.lload_n 0, 1) := by decide +kernel
theorem d_JM_max_JJJ_7 : decode b_JM_max_JJJ 7 = .ok (.goto 4, 3) := by decide +kernel
theorem d_JM_max_JJJ_10 : decode b_JM_max_JJJ 10 = .ok (.lload_n 2, 1) := by decide +kernel
theorem d_JM_max_JJJ_11 : decode b_JM_max_JJJ 11 = .ok (.lreturn, 1) := by decide +kernel
theorem d_JM_min_0 : decode b_JM_min 0 = .ok (.iload_n 0, 1) := by decide +kernel
theorem d_JM_min_1 : decode b_JM_min 1 = .ok (.iload_n 1, 1) := by decide +kernel
theorem d_JM_min_2 : decode b_JM_min 2 = .ok (.if_icmp .gt 7, 3) := by decide +kernel
theorem d_JM_min_5 : decode b_JM_min 5 = .ok (.iload_n 0, 1) := by decide +kernel
theorem d_JM_min_6 : decode b_JM_min 6 = .ok (.goto 4, 3) := by decide +kernel
theorem d_JM_min_9 : decode b_JM_min 9 = .ok (.iload_n 1, 1) := by decide +kernel
theorem d_JM_min_10 : decode b_JM_min 10 = .ok (.ireturn, 1) := by decide +kernel
theorem d_JM_min_JJJ_0 : decode b_JM_min_JJJ 0 = .ok (.lload_n 0, 1) := by decide +kernel
theorem d_JM_min_JJJ_1 : decode b_JM_min_JJJ 1 = .ok (.lload_n 2, 1) := by decide +kernel
theorem d_JM_min_JJJ_2 : decode b_JM_min_JJJ 2 = .ok (.lcmp, 1) := by decide +kernel
theorem d_JM_min_JJJ_3 : decode b_JM_min_JJJ 3 = .ok (.ifCond .gt 7, 3) := by decide +kernel
theorem d_JM_min_JJJ_6 : decode b_JM_min_JJJ 6 = .ok (.lload_n 0, 1) := by decide +kernel
theorem d_JM_min_JJJ_7 : decode b_JM_min_JJJ 7 = .ok (.goto 4, 3) := by decide +kernel
theorem d_JM_min_JJJ_10 : decode b_JM_min_JJJ 10 = .ok (.lload_n 2, 1) := by decide +kernel
theorem d_JM_min_JJJ_11 : decode b_JM_min_JJJ 11 = .ok (.lreturn, 1) := by decide +kernel
theorem d_JA_fill_0 : decode b_JA_fill 0 = .ok (.iconst 0, 1) := by decide +kernel
theorem d_JA_fill_1 : decode b_JA_fill 1 = .ok (.istore_n 3, 1) := by decide +kernel
theorem d_JA_fill_2 : decode b_JA_fill 2 = .ok (.aload_n 0, 1) := by decide +kernel
theorem d_JA_fill_3 : decode b_JA_fill 3 = .ok (.arraylength, 1) := by decide +kernel
theorem d_JA_fill_4 : decode b_JA_fill 4 = .ok (.istore 4, 2) := by decide +kernel
theorem d_JA_fill_6 : decode b_JA_fill 6 = .ok (.iload_n 3, 1) := by decide +kernel
theorem d_JA_fill_7 : decode b_JA_fill 7 = .ok (.iload 4, 2) := by decide +kernel
theorem d_JA_fill_9 : decode b_JA_fill 9 = .ok (.if_icmp .ge 13, 3) := by decide +kernel
theorem d_JA_fill_12 : decode b_JA_fill 12 = .ok (.aload_n 0, 1) := by decide +kernel
theorem d_JA_fill_13 : decode b_JA_fill 13 = .ok (.iload_n 3, 1) := by decide +kernel
theorem d_JA_fill_14 : decode b_JA_fill 14 = .ok (.lload_n 1, 1) := by decide +kernel
theorem d_JA_fill_15 : decode b_JA_fill 15 = .ok (.lastore, 1) := by decide +kernel
theorem d_JA_fill_16 : decode b_JA_fill 16 = .ok (.iinc 3 1, 3) := by decide +kernel
theorem d_JA_fill_19 : decode b_JA_fill 19 = .ok (.goto (-13), 3) := by decide +kernel
theorem d_JA_fill_22 : decode b_JA_fill 22 = .ok (.return_, 1) := by decide +kernel
end
section
theorem d_X_init_0 : decode b_X_init 0 = .ok (.aload_n 0, 1) := by decide +kernel
theorem d_X_init_1 : decode b_X_init 1 = .ok (.invokespecial 1, 3) := by decide +kernel
theorem d_X_init_4 : decode b_X_init 4 = .ok (.aload_n 0, 1) := by decide +kernel
theorem d_X_init_5 : decode b_X_init 5 = .ok (.iconst 1, 1) := by decide +kernel
theorem d_X_init_6 : decode b_X_init 6 = .ok (.iconst 5, 1) := by decide +kernel
theorem d_X_init_7 : decode b_X_init 7 = .ok (.iload_n 1, 1) := by decide +kernel
theorem d_X_init_8 : decode b_X_init 8 = .ok (.invokestatic 9, 3) := by decide +kernel
theorem d_X_init_11 : decode b_X_init 11 = .ok (.invokestatic 15, 3) := by decide +kernel
theorem d_X_init_14 : decode b_X_init 14 = .ok (.putfield 18, 3) := by decide +kernel
theorem d_X_init_17 : decode b_X_init 17 = .ok (.aload_n 0, 1) := by decide +kernel
theorem d_X_init_18 : decode b_X_init 18 = .ok (.iconst 2, 1) := by decide +kernel
theorem d_X_init_19 : decode b_X_init 19 = .ok (.aload_n 0, 1) := by decide +kernel
theorem d_X_init_20 : decode b_X_init 20 = .ok (.getfield 18, 3) := by decide +kernel
theorem d_X_init_23 : decode b_X_init 23 = .ok (.imul, 1) := by decide +kernel
theorem d_X_init_24 : decode b_X_init 24 = .ok (.putfield 22, 3) := by decide +kernel
theorem d_X_init_27 : decode b_X_init 27 = .ok (.aload_n 0, 1) := by decide +kernel
theorem d_X_init_28 : decode b_X_init 28 = .ok (.bipush 8, 2) := by decide +kernel
theorem d_X_init_30 : decode b_X_init 30 = .ok (.anewarray 25, 3) := by decide +kernel
theorem d_X_init_33 : decode b_X_init 33 = .ok (.putfield 27, 3) := by decide +kernel
theorem d_X_init_36 : decode b_X_init 36 = .ok (.iconst 0, 1) := by decide +kernel
theorem d_X_init_37 : decode b_X_init 37 = .ok (.istore_n 2, 1) := by decide +kernel
theorem d_X_init_38 : decode b_X_init 38 = .ok (.iload_n 2, 1) := by decide +kernel
theorem d_X_init_39 : decode b_X_init 39 = .ok (.bipush 8, 2) := by decide +kernel
theorem d_X_init_41 : decode b_X_init 41 = .ok (.if_icmp .ge 26, 3) := by decide +kernel
theorem d_X_init_44 : decode b_X_init 44 = .ok (.aload_n 0, 1) := by decide +kernel
theorem d_X_init_45 : decode b_X_init 45 = .ok (.getfield 27, 3) := by decide +kernel
theorem d_X_init_48 : decode b_X_init 48 = .ok (.iload_n 2, 1) := by decide +kernel
theorem d_X_init_49 : decode b_X_init 49 = .ok (.new 25, 3) := by decide +kernel
theorem d_X_init_52 : decode b_X_init 52 = .ok (.dup, 1) := by decide +kernel
theorem d_X_init_53 : decode b_X_init 53 = .ok (.aload_n 0, 1) := by decide +kernel
theorem d_X_init_54 : decode b_X_init 54 = .ok (.getfield 22, 3) := by decide +kernel
theorem d_X_init_57 : decode b_X_init 57 = .ok (.invokespecial 31, 3) := by decide +kernel
theorem d_X_init_60 : decode b_X_init 60 = .ok (.aastore, 1) := by decide +kernel
theorem d_X_init_61 : decode b_X_init 61 = .ok (.iinc 2 1, 3) := by decide +kernel
theorem d_X_init_64 : decode b_X_init 64 = .ok (.goto (-26), 3) := by decide +kernel
theorem d_X_init_67 : decode b_X_init 67 = .ok (.aload_n 0, 1) := by decide +kernel
theorem d_X_init_68 : decode b_X_init 68 = .ok (.new 25, 3) := by decide +kernel
theorem d_X_init_71 : decode b_X_init 71 = .ok (.dup, 1) := by decide +kernel
theorem d_X_init_72 : decode b_X_init 72 = .ok (.aload_n 0, 1) := by decide +kernel
theorem d_X_init_73 : decode b_X_init 73 = .ok (.getfield 22, 3) := by decide +kernel
theorem d_X_init_76 : decode b_X_init 76 = .ok (.invokespecial 31, 3) := by decide +kernel
theorem d_X_init_79 : decode b_X_init 79 = .ok (.putfield 34, 3) := by decide +kernel
theorem d_X_init_82 : decode b_X_init 82 = .ok (.aload_n 0, 1) := by decide +kernel
theorem d_X_init_83 : decode b_X_init 83 = .ok (.new 38, 3) := by decide +kernel
theorem d_X_init_86 : decode b_X_init 86 = .ok (.dup, 1) := by decide +kernel
theorem d_X_init_87 : decode b_X_init 87 = .ok (.aload_n 0, 1) := by decide +kernel
theorem d_X_init_88 : decode b_X_init 88 = .ok (.getfield 22, 3) := by decide +kernel
theorem d_X_init_91 : decode b_X_init 91 = .ok (.invokespecial 40, 3) := by decide +kernel
theorem d_X_init_94 : decode b_X_init 94 = .ok (.putfield 41, 3) := by decide +kernel
theorem d_X_init_97 : decode b_X_init 97 = .ok (.aload_n 0, 1) := by decide +kernel
theorem d_X_init_98 : decode b_X_init 98 = .ok (.new 38, 3) := by decide +kernel
theorem d_X_init_101 : decode b_X_init 101 = .ok (.dup, 1) := by decide +kernel
theorem d_X_init_102 : decode b_X_init 102 = .ok (.aload_n 0, 1) := by decide +kernel
theorem d_X_init_103 : decode b_X_init 103 = .ok (.getfield 22, 3) := by decide +kernel
theorem d_X_init_106 : decode b_X_init 106 = .ok (.invokespecial 40, 3) := by decide +kernel
theorem d_X_init_109 : decode b_X_init 109 = .ok (.putfield 45, 3) := by decide +kernel
theorem d_X_init_112 : decode b_X_init 112 = .ok (.aload_n 0, 1) := by decide +kernel
theorem d_X_init_113 : decode b_X_init 113 = .ok (.aload_n 0, 1) := by decide +kernel
theorem d_X_init_114 : decode b_X_init 114 = .ok (.getfield 18, 3) := by decide +kernel
theorem d_X_init_117 : decode b_X_init 117 = .ok (.newarray .long, 2) := by decide +kernel
theorem d_X_init_119 : decode b_X_init 119 = .ok (.putfield 48, 3) := by decide +kernel
theorem d_X_init_122 : decode b_X_init 122 = .ok (.aload_n 0, 1) := by decide +kernel
theorem d_X_init_123 : decode b_X_init 123 = .ok (.iconst 3, 1) := by decide +kernel
theorem d_X_init_124 : decode b_X_init 124 = .ok (.aload_n 0, 1) := by decide +kernel
theorem d_X_init_125 : decode b_X_init 125 = .ok (.getfield 22, 3) := by decide +kernel
theorem d_X_init_128 : decode b_X_init 128 = .ok (.imul, 1) := by decide +kernel
theorem d_X_init_129 : decode b_X_init 129 = .ok (.aload_n 0, 1) := by decide +kernel
theorem d_X_init_130 : decode b_X_init 130 = .ok (.getfield 22, 3) := by decide +kernel
theorem d_X_init_133 : decode b_X_init 133 = .ok (.imul, 1) := by decide +kernel
theorem d_X_init_134 : decode b_X_init 134 = .ok (.iconst 2, 1) := by decide +kernel
theorem d_X_init_135 : decode b_X_init 135 = .ok (.idiv, 1) := by decide +kernel
theorem d_X_init_136 : decode b_X_init 136 = .ok (.newarray .long, 2) := by decide +kernel
theorem d_X_init_138 : decode b_X_init 138 = .ok (.putfield 52, 3) := by decide +kernel
theorem d_X_init_141 : decode b_X_init 141 = .ok (.aload_n 0, 1) := by decide +kernel
theorem d_X_init_142 : decode b_X_init 142 = .ok (.iconst 0, 1) := by decide +kernel
theorem d_X_init_143 : decode b_X_init 143 = .ok (.putfield 55, 3) := by decide +kernel
theorem d_X_init_146 : decode b_X_init 146 = .ok (.return_, 1) := by decide +kernel
theorem d_X_all_0 : decode b_X_all 0 = .ok (.iload_n 1, 1) := by decide +kernel
theorem d_X_all_1 : decode b_X_all 1 = .ok (.invokestatic 58, 3) := by decide +kernel
theorem d_X_all_4 : decode b_X_all 4 = .ok (.aload_n 0, 1) := by decide +kernel
theorem d_X_all_5 : decode b_X_all 5 = .ok (.getfield 27, 3) := by decide +kernel
theorem d_X_all_8 : decode b_X_all 8 = .ok (.iload_n 1, 1) := by decide +kernel
theorem d_X_all_9 : decode b_X_all 9 = .ok (.aaload, 1) := by decide +kernel
theorem d_X_all_10 : decode b_X_all 10 = .ok (.invokevirtual 61, 3) := by decide +kernel
theorem d_X_all_13 : decode b_X_all 13 = .ok (.return_, 1) := by decide +kernel
theorem d_X_row_0 : decode b_X_row 0 = .ok (.iload_n 1, 1) := by decide +kernel
theorem d_X_row_1 : decode b_X_row 1 = .ok (.invokestatic 58, 3) := by decide +kernel
theorem d_X_row_4 : decode b_X_row 4 = .ok (.aload_n 0, 1) := by decide +kernel
theorem d_X_row_5 : decode b_X_row 5 = .ok (.iload_n 2, 1) := by decide +kernel
theorem d_X_row_6 : decode b_X_row 6 = .ok (.invokevirtual 64, 3) := by decide +kernel
theorem d_X_row_9 : decode b_X_row 9 = .ok (.aload_n 0, 1) := by decide +kernel
theorem d_X_row_10 : decode b_X_row 10 = .ok (.iload_n 3, 1) := by decide +kernel
theorem d_X_row_11 : decode b_X_row 11 = .ok (.invokevirtual 64, 3) := by decide +kernel
theorem d_X_row_14 : decode b_X_row 14 = .ok (.lload 4, 2) := by decide +kernel
theorem d_X_row_16 : decode b_X_row 16 = .ok (.invokestatic 67, 3) := by decide +kernel
theorem d_X_row_19 : decode b_X_row 19 = .ok (.aload_n 0, 1) := by decide +kernel
theorem d_X_row_20 : decode b_X_row 20 = .ok (.getfield 34, 3) := by decide +kernel
theorem d_X_row_23 : decode b_X_row 23 = .ok (.aload_n 0, 1) := by decide +kernel
theorem d_X_row_24 : decode b_X_row 24 = .ok (.getfield 27, 3) := by decide +kernel
theorem d_X_row_27 : decode b_X_row 27 = .ok (.iload_n 1, 1) := by decide +kernel
theorem d_X_row_28 : decode b_X_row 28 = .ok (.aaload, 1) := by decide +kernel
theorem d_X_row_29 : decode b_X_row 29 = .ok (.invokevirtual 71, 3) := by decide +kernel
theorem d_X_row_32 : decode b_X_row 32 = .ok (.aload_n 0, 1) := by decide +kernel
theorem d_X_row_33 : decode b_X_row 33 = .ok (.getfield 34, 3) := by decide +kernel
theorem d_X_row_36 : decode b_X_row 36 = .ok (.iload_n 2, 1) := by decide +kernel
theorem d_X_row_37 : decode b_X_row 37 = .ok (.iload_n 3, 1) := by decide +kernel
theorem d_X_row_38 : decode b_X_row 38 = .ok (.lload 4, 2) := by decide +kernel
theorem d_X_row_40 : decode b_X_row 40 = .ok (.invokevirtual 75, 3) := by decide +kernel
theorem d_X_row_43 : decode b_X_row 43 = .ok (.aload_n 0, 1) := by decide +kernel
theorem d_X_row_44 : decode b_X_row 44 = .ok (.iload_n 1, 1) := by decide +kernel
theorem d_X_row_45 : decode b_X_row 45 = .ok (.invokevirtual 79, 3) := by decide +kernel
theorem d_X_row_48 : decode b_X_row 48 = .ok (.ireturn, 1) := by decide +kernel
theorem d_X_bound_0 : decode b_X_bound 0 = .ok (.iload_n 1, 1) := by decide +kernel
theorem d_X_bound_1 : decode b_X_bound 1 = .ok (.invokestatic 58, 3) := by decide +kernel
theorem d_X_bound_4 : decode b_X_bound 4 = .ok (.aload_n 0, 1) := by decide +kernel
theorem d_X_bound_5 : decode b_X_bound 5 = .ok (.iload_n 2, 1) := by decide +kernel
theorem d_X_bound_6 : decode b_X_bound 6 = .ok (.invokevirtual 64, 3) := by decide +kernel
theorem d_X_bound_9 : decode b_X_bound 9 = .ok (.aload_n 0, 1) := by decide +kernel
theorem d_X_bound_10 : decode b_X_bound 10 = .ok (.iload_n 3, 1) := by decide +kernel
theorem d_X_bound_11 : decode b_X_bound 11 = .ok (.invokevirtual 64, 3) := by decide +kernel
theorem d_X_bound_14 : decode b_X_bound 14 = .ok (.aload_n 0, 1) := by decide +kernel
theorem d_X_bound_15 : decode b_X_bound 15 = .ok (.getfield 27, 3) := by decide +kernel
theorem d_X_bound_18 : decode b_X_bound 18 = .ok (.iload_n 1, 1) := by decide +kernel
theorem d_X_bound_19 : decode b_X_bound 19 = .ok (.aaload, 1) := by decide +kernel
theorem d_X_bound_20 : decode b_X_bound 20 = .ok (.iload_n 2, 1) := by decide +kernel
theorem d_X_bound_21 : decode b_X_bound 21 = .ok (.iload_n 3, 1) := by decide +kernel
theorem d_X_bound_22 : decode b_X_bound 22 = .ok (.invokevirtual 83, 3) := by decide +kernel
theorem d_X_bound_25 : decode b_X_bound 25 = .ok (.lreturn, 1) := by decide +kernel
theorem d_X_kept_0 : decode b_X_kept 0 = .ok (.iload_n 1, 1) := by decide +kernel
theorem d_X_kept_1 : decode b_X_kept 1 = .ok (.invokestatic 58, 3) := by decide +kernel
theorem d_X_kept_4 : decode b_X_kept 4 = .ok (.aload_n 0, 1) := by decide +kernel
theorem d_X_kept_5 : decode b_X_kept 5 = .ok (.iload_n 2, 1) := by decide +kernel
theorem d_X_kept_6 : decode b_X_kept 6 = .ok (.invokevirtual 64, 3) := by decide +kernel
theorem d_X_kept_9 : decode b_X_kept 9 = .ok (.aload_n 0, 1) := by decide +kernel
theorem d_X_kept_10 : decode b_X_kept 10 = .ok (.iload_n 3, 1) := by decide +kernel
theorem d_X_kept_11 : decode b_X_kept 11 = .ok (.invokevirtual 64, 3) := by decide +kernel
theorem d_X_kept_14 : decode b_X_kept 14 = .ok (.iload_n 2, 1) := by decide +kernel
theorem d_X_kept_15 : decode b_X_kept 15 = .ok (.iload_n 3, 1) := by decide +kernel
theorem d_X_kept_16 : decode b_X_kept 16 = .ok (.if_icmp .eq 9, 3) := by decide +kernel
theorem d_X_kept_19 : decode b_X_kept 19 = .ok (.iload_n 2, 1) := by decide +kernel
theorem d_X_kept_20 : decode b_X_kept 20 = .ok (.iload_n 3, 1) := by decide +kernel
theorem d_X_kept_21 : decode b_X_kept 21 = .ok (.ineg, 1) := by decide +kernel
theorem d_X_kept_22 : decode b_X_kept 22 = .ok (.if_icmp .ne 7, 3) := by decide +kernel
theorem d_X_kept_25 : decode b_X_kept 25 = .ok (.ldc2_w 87, 3) := by decide +kernel
theorem d_X_kept_28 : decode b_X_kept 28 = .ok (.lreturn, 1) := by decide +kernel
theorem d_X_kept_29 : decode b_X_kept 29 = .ok (.aload_n 0, 1) := by decide +kernel
theorem d_X_kept_30 : decode b_X_kept 30 = .ok (.getfield 27, 3) := by decide +kernel
theorem d_X_kept_33 : decode b_X_kept 33 = .ok (.iload_n 1, 1) := by decide +kernel
theorem d_X_kept_34 : decode b_X_kept 34 = .ok (.aaload, 1) := by decide +kernel
theorem d_X_kept_35 : decode b_X_kept 35 = .ok (.getfield 89, 3) := by decide +kernel
theorem d_X_kept_38 : decode b_X_kept 38 = .ok (.iload_n 2, 1) := by decide +kernel
theorem d_X_kept_39 : decode b_X_kept 39 = .ok (.iload_n 3, 1) := by decide +kernel
theorem d_X_kept_40 : decode b_X_kept 40 = .ok (.invokevirtual 92, 3) := by decide +kernel
theorem d_X_kept_43 : decode b_X_kept 43 = .ok (.lreturn, 1) := by decide +kernel
theorem d_X_meet_0 : decode b_X_meet 0 = .ok (.iload_n 1, 1) := by decide +kernel
theorem d_X_meet_1 : decode b_X_meet 1 = .ok (.iload_n 2, 1) := by decide +kernel
theorem d_X_meet_2 : decode b_X_meet 2 = .ok (.iload_n 3, 1) := by decide +kernel
theorem d_X_meet_3 : decode b_X_meet 3 = .ok (.invokestatic 95, 3) := by decide +kernel
theorem d_X_meet_6 : decode b_X_meet 6 = .ok (.aload_n 0, 1) := by decide +kernel
theorem d_X_meet_7 : decode b_X_meet 7 = .ok (.getfield 34, 3) := by decide +kernel
theorem d_X_meet_10 : decode b_X_meet 10 = .ok (.aload_n 0, 1) := by decide +kernel
theorem d_X_meet_11 : decode b_X_meet 11 = .ok (.getfield 27, 3) := by decide +kernel
theorem d_X_meet_14 : decode b_X_meet 14 = .ok (.iload_n 2, 1) := by decide +kernel
theorem d_X_meet_15 : decode b_X_meet 15 = .ok (.aaload, 1) := by decide +kernel
theorem d_X_meet_16 : decode b_X_meet 16 = .ok (.aload_n 0, 1) := by decide +kernel
theorem d_X_meet_17 : decode b_X_meet 17 = .ok (.getfield 27, 3) := by decide +kernel
theorem d_X_meet_20 : decode b_X_meet 20 = .ok (.iload_n 3, 1) := by decide +kernel
theorem d_X_meet_21 : decode b_X_meet 21 = .ok (.aaload, 1) := by decide +kernel
theorem d_X_meet_22 : decode b_X_meet 22 = .ok (.invokevirtual 99, 3) := by decide +kernel
theorem d_X_meet_25 : decode b_X_meet 25 = .ok (.aload_n 0, 1) := by decide +kernel
theorem d_X_meet_26 : decode b_X_meet 26 = .ok (.iload_n 1, 1) := by decide +kernel
theorem d_X_meet_27 : decode b_X_meet 27 = .ok (.invokevirtual 79, 3) := by decide +kernel
theorem d_X_meet_30 : decode b_X_meet 30 = .ok (.ireturn, 1) := by decide +kernel
theorem d_X_join_0 : decode b_X_join 0 = .ok (.iload_n 1, 1) := by decide +kernel
theorem d_X_join_1 : decode b_X_join 1 = .ok (.iload_n 2, 1) := by decide +kernel
theorem d_X_join_2 : decode b_X_join 2 = .ok (.iload_n 3, 1) := by decide +kernel
theorem d_X_join_3 : decode b_X_join 3 = .ok (.invokestatic 95, 3) := by decide +kernel
theorem d_X_join_6 : decode b_X_join 6 = .ok (.aload_n 0, 1) := by decide +kernel
theorem d_X_join_7 : decode b_X_join 7 = .ok (.getfield 34, 3) := by decide +kernel
theorem d_X_join_10 : decode b_X_join 10 = .ok (.aload_n 0, 1) := by decide +kernel
theorem d_X_join_11 : decode b_X_join 11 = .ok (.getfield 27, 3) := by decide +kernel
theorem d_X_join_14 : decode b_X_join 14 = .ok (.iload_n 2, 1) := by decide +kernel
theorem d_X_join_15 : decode b_X_join 15 = .ok (.aaload, 1) := by decide +kernel
theorem d_X_join_16 : decode b_X_join 16 = .ok (.aload_n 0, 1) := by decide +kernel
theorem d_X_join_17 : decode b_X_join 17 = .ok (.getfield 27, 3) := by decide +kernel
theorem d_X_join_20 : decode b_X_join 20 = .ok (.iload_n 3, 1) := by decide +kernel
theorem d_X_join_21 : decode b_X_join 21 = .ok (.aaload, 1) := by decide +kernel
theorem d_X_join_22 : decode b_X_join 22 = .ok (.invokevirtual 103, 3) := by decide +kernel
theorem d_X_join_25 : decode b_X_join 25 = .ok (.aload_n 0, 1) := by decide +kernel
theorem d_X_join_26 : decode b_X_join 26 = .ok (.iload_n 1, 1) := by decide +kernel
theorem d_X_join_27 : decode b_X_join 27 = .ok (.invokevirtual 79, 3) := by decide +kernel
theorem d_X_join_30 : decode b_X_join 30 = .ok (.ireturn, 1) := by decide +kernel
theorem d_X_widen_0 : decode b_X_widen 0 = .ok (.iload_n 1, 1) := by decide +kernel
theorem d_X_widen_1 : decode b_X_widen 1 = .ok (.iload_n 2, 1) := by decide +kernel
theorem d_X_widen_2 : decode b_X_widen 2 = .ok (.iload_n 3, 1) := by decide +kernel
theorem d_X_widen_3 : decode b_X_widen 3 = .ok (.invokestatic 95, 3) := by decide +kernel
theorem d_X_widen_6 : decode b_X_widen 6 = .ok (.aload_n 0, 1) := by decide +kernel
theorem d_X_widen_7 : decode b_X_widen 7 = .ok (.getfield 34, 3) := by decide +kernel
theorem d_X_widen_10 : decode b_X_widen 10 = .ok (.aload_n 0, 1) := by decide +kernel
theorem d_X_widen_11 : decode b_X_widen 11 = .ok (.getfield 27, 3) := by decide +kernel
theorem d_X_widen_14 : decode b_X_widen 14 = .ok (.iload_n 2, 1) := by decide +kernel
theorem d_X_widen_15 : decode b_X_widen 15 = .ok (.aaload, 1) := by decide +kernel
theorem d_X_widen_16 : decode b_X_widen 16 = .ok (.aload_n 0, 1) := by decide +kernel
theorem d_X_widen_17 : decode b_X_widen 17 = .ok (.getfield 27, 3) := by decide +kernel
theorem d_X_widen_20 : decode b_X_widen 20 = .ok (.iload_n 3, 1) := by decide +kernel
theorem d_X_widen_21 : decode b_X_widen 21 = .ok (.aaload, 1) := by decide +kernel
theorem d_X_widen_22 : decode b_X_widen 22 = .ok (.invokevirtual 106, 3) := by decide +kernel
theorem d_X_widen_25 : decode b_X_widen 25 = .ok (.aload_n 0, 1) := by decide +kernel
theorem d_X_widen_26 : decode b_X_widen 26 = .ok (.iload_n 1, 1) := by decide +kernel
theorem d_X_widen_27 : decode b_X_widen 27 = .ok (.invokevirtual 79, 3) := by decide +kernel
theorem d_X_widen_30 : decode b_X_widen 30 = .ok (.ireturn, 1) := by decide +kernel
theorem d_X_narrow_0 : decode b_X_narrow 0 = .ok (.iload_n 1, 1) := by decide +kernel
theorem d_X_narrow_1 : decode b_X_narrow 1 = .ok (.iload_n 2, 1) := by decide +kernel
theorem d_X_narrow_2 : decode b_X_narrow 2 = .ok (.iload_n 3, 1) := by decide +kernel
theorem d_X_narrow_3 : decode b_X_narrow 3 = .ok (.invokestatic 95, 3) := by decide +kernel
theorem d_X_narrow_6 : decode b_X_narrow 6 = .ok (.aload_n 0, 1) := by decide +kernel
theorem d_X_narrow_7 : decode b_X_narrow 7 = .ok (.getfield 34, 3) := by decide +kernel
theorem d_X_narrow_10 : decode b_X_narrow 10 = .ok (.aload_n 0, 1) := by decide +kernel
theorem d_X_narrow_11 : decode b_X_narrow 11 = .ok (.getfield 27, 3) := by decide +kernel
theorem d_X_narrow_14 : decode b_X_narrow 14 = .ok (.iload_n 2, 1) := by decide +kernel
theorem d_X_narrow_15 : decode b_X_narrow 15 = .ok (.aaload, 1) := by decide +kernel
theorem d_X_narrow_16 : decode b_X_narrow 16 = .ok (.aload_n 0, 1) := by decide +kernel
theorem d_X_narrow_17 : decode b_X_narrow 17 = .ok (.getfield 27, 3) := by decide +kernel
theorem d_X_narrow_20 : decode b_X_narrow 20 = .ok (.iload_n 3, 1) := by decide +kernel
theorem d_X_narrow_21 : decode b_X_narrow 21 = .ok (.aaload, 1) := by decide +kernel
theorem d_X_narrow_22 : decode b_X_narrow 22 = .ok (.invokevirtual 109, 3) := by decide +kernel
theorem d_X_narrow_25 : decode b_X_narrow 25 = .ok (.aload_n 0, 1) := by decide +kernel
theorem d_X_narrow_26 : decode b_X_narrow 26 = .ok (.iload_n 1, 1) := by decide +kernel
theorem d_X_narrow_27 : decode b_X_narrow 27 = .ok (.invokevirtual 79, 3) := by decide +kernel
theorem d_X_narrow_30 : decode b_X_narrow 30 = .ok (.ireturn, 1) := by decide +kernel
theorem d_X_copy_0 : decode b_X_copy 0 = .ok (.iload_n 1, 1) := by decide +kernel
theorem d_X_copy_1 : decode b_X_copy 1 = .ok (.invokestatic 58, 3) := by decide +kernel
theorem d_X_copy_4 : decode b_X_copy 4 = .ok (.iload_n 2, 1) := by decide +kernel
theorem d_X_copy_5 : decode b_X_copy 5 = .ok (.invokestatic 58, 3) := by decide +kernel
theorem d_X_copy_8 : decode b_X_copy 8 = .ok (.aload_n 0, 1) := by decide +kernel
theorem d_X_copy_9 : decode b_X_copy 9 = .ok (.getfield 27, 3) := by decide +kernel
theorem d_X_copy_12 : decode b_X_copy 12 = .ok (.iload_n 1, 1) := by decide +kernel
theorem d_X_copy_13 : decode b_X_copy 13 = .ok (.aaload, 1) := by decide +kernel
theorem d_X_copy_14 : decode b_X_copy 14 = .ok (.aload_n 0, 1) := by decide +kernel
theorem d_X_copy_15 : decode b_X_copy 15 = .ok (.getfield 27, 3) := by decide +kernel
theorem d_X_copy_18 : decode b_X_copy 18 = .ok (.iload_n 2, 1) := by decide +kernel
theorem d_X_copy_19 : decode b_X_copy 19 = .ok (.aaload, 1) := by decide +kernel
theorem d_X_copy_20 : decode b_X_copy 20 = .ok (.invokevirtual 71, 3) := by decide +kernel
theorem d_X_copy_23 : decode b_X_copy 23 = .ok (.return_, 1) := by decide +kernel
theorem d_X_set_0 : decode b_X_set 0 = .ok (.iload_n 1, 1) := by decide +kernel
theorem d_X_set_1 : decode b_X_set 1 = .ok (.invokestatic 58, 3) := by decide +kernel
theorem d_X_set_4 : decode b_X_set 4 = .ok (.aload_n 0, 1) := by decide +kernel
theorem d_X_set_5 : decode b_X_set 5 = .ok (.iload_n 2, 1) := by decide +kernel
theorem d_X_set_6 : decode b_X_set 6 = .ok (.invokevirtual 112, 3) := by decide +kernel
theorem d_X_set_9 : decode b_X_set 9 = .ok (.aload_n 0, 1) := by decide +kernel
theorem d_X_set_10 : decode b_X_set 10 = .ok (.iload_n 3, 1) := by decide +kernel
theorem d_X_set_11 : decode b_X_set 11 = .ok (.invokevirtual 64, 3) := by decide +kernel
theorem d_X_set_14 : decode b_X_set 14 = .ok (.lload 4, 2) := by decide +kernel
theorem d_X_set_16 : decode b_X_set 16 = .ok (.invokestatic 67, 3) := by decide +kernel
theorem d_X_set_19 : decode b_X_set 19 = .ok (.aload_n 0, 1) := by decide +kernel
theorem d_X_set_20 : decode b_X_set 20 = .ok (.getfield 34, 3) := by decide +kernel
theorem d_X_set_23 : decode b_X_set 23 = .ok (.aload_n 0, 1) := by decide +kernel
theorem d_X_set_24 : decode b_X_set 24 = .ok (.getfield 27, 3) := by decide +kernel
theorem d_X_set_27 : decode b_X_set 27 = .ok (.iload_n 1, 1) := by decide +kernel
theorem d_X_set_28 : decode b_X_set 28 = .ok (.aaload, 1) := by decide +kernel
theorem d_X_set_29 : decode b_X_set 29 = .ok (.iload_n 2, 1) := by decide +kernel
theorem d_X_set_30 : decode b_X_set 30 = .ok (.iload_n 3, 1) := by decide +kernel
theorem d_X_set_31 : decode b_X_set 31 = .ok (.lload 4, 2) := by decide +kernel
theorem d_X_set_33 : decode b_X_set 33 = .ok (.invokevirtual 115, 3) := by decide +kernel
theorem d_X_set_36 : decode b_X_set 36 = .ok (.aload_n 0, 1) := by decide +kernel
theorem d_X_set_37 : decode b_X_set 37 = .ok (.iload_n 1, 1) := by decide +kernel
theorem d_X_set_38 : decode b_X_set 38 = .ok (.invokevirtual 79, 3) := by decide +kernel
theorem d_X_set_41 : decode b_X_set 41 = .ok (.ireturn, 1) := by decide +kernel
theorem d_X_forget_0 : decode b_X_forget 0 = .ok (.iload_n 1, 1) := by decide +kernel
theorem d_X_forget_1 : decode b_X_forget 1 = .ok (.invokestatic 58, 3) := by decide +kernel
theorem d_X_forget_4 : decode b_X_forget 4 = .ok (.aload_n 0, 1) := by decide +kernel
theorem d_X_forget_5 : decode b_X_forget 5 = .ok (.iload_n 2, 1) := by decide +kernel
theorem d_X_forget_6 : decode b_X_forget 6 = .ok (.invokevirtual 112, 3) := by decide +kernel
theorem d_X_forget_9 : decode b_X_forget 9 = .ok (.aload_n 0, 1) := by decide +kernel
theorem d_X_forget_10 : decode b_X_forget 10 = .ok (.getfield 34, 3) := by decide +kernel
theorem d_X_forget_13 : decode b_X_forget 13 = .ok (.aload_n 0, 1) := by decide +kernel
theorem d_X_forget_14 : decode b_X_forget 14 = .ok (.getfield 27, 3) := by decide +kernel
theorem d_X_forget_17 : decode b_X_forget 17 = .ok (.iload_n 1, 1) := by decide +kernel
theorem d_X_forget_18 : decode b_X_forget 18 = .ok (.aaload, 1) := by decide +kernel
theorem d_X_forget_19 : decode b_X_forget 19 = .ok (.iload_n 2, 1) := by decide +kernel
theorem d_X_forget_20 : decode b_X_forget 20 = .ok (.invokevirtual 119, 3) := by decide +kernel
theorem d_X_forget_23 : decode b_X_forget 23 = .ok (.aload_n 0, 1) := by decide +kernel
theorem d_X_forget_24 : decode b_X_forget 24 = .ok (.iload_n 1, 1) := by decide +kernel
theorem d_X_forget_25 : decode b_X_forget 25 = .ok (.invokevirtual 79, 3) := by decide +kernel
theorem d_X_forget_28 : decode b_X_forget 28 = .ok (.ireturn, 1) := by decide +kernel
theorem d_X_within_0 : decode b_X_within 0 = .ok (.iload_n 1, 1) := by decide +kernel
theorem d_X_within_1 : decode b_X_within 1 = .ok (.invokestatic 58, 3) := by decide +kernel
theorem d_X_within_4 : decode b_X_within 4 = .ok (.iload_n 2, 1) := by decide +kernel
theorem d_X_within_5 : decode b_X_within 5 = .ok (.invokestatic 58, 3) := by decide +kernel
theorem d_X_within_8 : decode b_X_within 8 = .ok (.aload_n 0, 1) := by decide +kernel
theorem d_X_within_9 : decode b_X_within 9 = .ok (.getfield 27, 3) := by decide +kernel
theorem d_X_within_12 : decode b_X_within 12 = .ok (.iload_n 1, 1) := by decide +kernel
theorem d_X_within_13 : decode b_X_within 13 = .ok (.aaload, 1) := by decide +kernel
theorem d_X_within_14 : decode b_X_within 14 = .ok (.getfield 123, 3) := by decide +kernel
theorem d_X_within_17 : decode b_X_within 17 = .ok (.ifCond .eq 5, 3) := by decide +kernel
theorem d_X_within_20 : decode b_X_within 20 = .ok (.iconst 1, 1) := by decide +kernel
theorem d_X_within_21 : decode b_X_within 21 = .ok (.ireturn, 1) := by decide +kernel
theorem d_X_within_22 : decode b_X_within 22 = .ok (.aload_n 0, 1) := by decide +kernel
theorem d_X_within_23 : decode b_X_within 23 = .ok (.getfield 27, 3) := by decide +kernel
theorem d_X_within_26 : decode b_X_within 26 = .ok (.iload_n 2, 1) := by decide +kernel
theorem d_X_within_27 : decode b_X_within 27 = .ok (.aaload, 1) := by decide +kernel
theorem d_X_within_28 : decode b_X_within 28 = .ok (.getfield 123, 3) := by decide +kernel
theorem d_X_within_31 : decode b_X_within 31 = .ok (.ifCond .ne 31, 3) := by decide +kernel
theorem d_X_within_34 : decode b_X_within 34 = .ok (.aload_n 0, 1) := by decide +kernel
theorem d_X_within_35 : decode b_X_within 35 = .ok (.getfield 27, 3) := by decide +kernel
theorem d_X_within_38 : decode b_X_within 38 = .ok (.iload_n 1, 1) := by decide +kernel
theorem d_X_within_39 : decode b_X_within 39 = .ok (.aaload, 1) := by decide +kernel
theorem d_X_within_40 : decode b_X_within 40 = .ok (.getfield 127, 3) := by decide +kernel
theorem d_X_within_43 : decode b_X_within 43 = .ok (.aload_n 0, 1) := by decide +kernel
theorem d_X_within_44 : decode b_X_within 44 = .ok (.getfield 27, 3) := by decide +kernel
theorem d_X_within_47 : decode b_X_within 47 = .ok (.iload_n 2, 1) := by decide +kernel
theorem d_X_within_48 : decode b_X_within 48 = .ok (.aaload, 1) := by decide +kernel
theorem d_X_within_49 : decode b_X_within 49 = .ok (.getfield 127, 3) := by decide +kernel
theorem d_X_within_52 : decode b_X_within 52 = .ok (.invokevirtual 130, 3) := by decide +kernel
theorem d_X_within_55 : decode b_X_within 55 = .ok (.ifCond .eq 7, 3) := by decide +kernel
theorem d_X_within_58 : decode b_X_within 58 = .ok (.iconst 1, 1) := by decide +kernel
theorem d_X_within_59 : decode b_X_within 59 = .ok (.goto 4, 3) := by decide +kernel
theorem d_X_within_62 : decode b_X_within 62 = .ok (.iconst 0, 1) := by decide +kernel
theorem d_X_within_63 : decode b_X_within 63 = .ok (.ireturn, 1) := by decide +kernel
theorem d_X_put_0 : decode b_X_put 0 = .ok (.aload_n 0, 1) := by decide +kernel
theorem d_X_put_1 : decode b_X_put 1 = .ok (.iload_n 1, 1) := by decide +kernel
theorem d_X_put_2 : decode b_X_put 2 = .ok (.invokevirtual 112, 3) := by decide +kernel
theorem d_X_put_5 : decode b_X_put 5 = .ok (.lload_n 2, 1) := by decide +kernel
theorem d_X_put_6 : decode b_X_put 6 = .ok (.invokestatic 67, 3) := by decide +kernel
theorem d_X_put_9 : decode b_X_put 9 = .ok (.aload_n 0, 1) := by decide +kernel
theorem d_X_put_10 : decode b_X_put 10 = .ok (.getfield 48, 3) := by decide +kernel
theorem d_X_put_13 : decode b_X_put 13 = .ok (.iload_n 1, 1) := by decide +kernel
theorem d_X_put_14 : decode b_X_put 14 = .ok (.iconst 1, 1) := by decide +kernel
theorem d_X_put_15 : decode b_X_put 15 = .ok (.isub, 1) := by decide +kernel
theorem d_X_put_16 : decode b_X_put 16 = .ok (.laload, 1) := by decide +kernel
theorem d_X_put_17 : decode b_X_put 17 = .ok (.lstore 4, 2) := by decide +kernel
theorem d_X_put_19 : decode b_X_put 19 = .ok (.aload_n 0, 1) := by decide +kernel
theorem d_X_put_20 : decode b_X_put 20 = .ok (.getfield 48, 3) := by decide +kernel
theorem d_X_put_23 : decode b_X_put 23 = .ok (.iload_n 1, 1) := by decide +kernel
theorem d_X_put_24 : decode b_X_put 24 = .ok (.iconst 1, 1) := by decide +kernel
theorem d_X_put_25 : decode b_X_put 25 = .ok (.isub, 1) := by decide +kernel
theorem d_X_put_26 : decode b_X_put 26 = .ok (.lload_n 2, 1) := by decide +kernel
theorem d_X_put_27 : decode b_X_put 27 = .ok (.lastore, 1) := by decide +kernel
theorem d_X_put_28 : decode b_X_put 28 = .ok (.lload 4, 2) := by decide +kernel
theorem d_X_put_30 : decode b_X_put 30 = .ok (.lreturn, 1) := by decide +kernel
theorem d_X_point_0 : decode b_X_point 0 = .ok (.aload_n 0, 1) := by decide +kernel
theorem d_X_point_1 : decode b_X_point 1 = .ok (.iload_n 1, 1) := by decide +kernel
theorem d_X_point_2 : decode b_X_point 2 = .ok (.invokevirtual 112, 3) := by decide +kernel
theorem d_X_point_5 : decode b_X_point 5 = .ok (.aload_n 0, 1) := by decide +kernel
theorem d_X_point_6 : decode b_X_point 6 = .ok (.getfield 48, 3) := by decide +kernel
theorem d_X_point_9 : decode b_X_point 9 = .ok (.iload_n 1, 1) := by decide +kernel
theorem d_X_point_10 : decode b_X_point 10 = .ok (.iconst 1, 1) := by decide +kernel
theorem d_X_point_11 : decode b_X_point 11 = .ok (.isub, 1) := by decide +kernel
theorem d_X_point_12 : decode b_X_point 12 = .ok (.laload, 1) := by decide +kernel
theorem d_X_point_13 : decode b_X_point 13 = .ok (.lreturn, 1) := by decide +kernel
theorem d_X_has_0 : decode b_X_has 0 = .ok (.iload_n 1, 1) := by decide +kernel
theorem d_X_has_1 : decode b_X_has 1 = .ok (.invokestatic 58, 3) := by decide +kernel
theorem d_X_has_4 : decode b_X_has 4 = .ok (.aload_n 0, 1) := by decide +kernel
theorem d_X_has_5 : decode b_X_has 5 = .ok (.getfield 27, 3) := by decide +kernel
theorem d_X_has_8 : decode b_X_has 8 = .ok (.iload_n 1, 1) := by decide +kernel
theorem d_X_has_9 : decode b_X_has 9 = .ok (.aaload, 1) := by decide +kernel
theorem d_X_has_10 : decode b_X_has 10 = .ok (.getfield 123, 3) := by decide +kernel
theorem d_X_has_13 : decode b_X_has 13 = .ok (.ifCond .eq 5, 3) := by decide +kernel
theorem d_X_has_16 : decode b_X_has 16 = .ok (.iconst 0, 1) := by decide +kernel
theorem d_X_has_17 : decode b_X_has 17 = .ok (.ireturn, 1) := by decide +kernel
theorem d_X_has_18 : decode b_X_has 18 = .ok (.iconst 0, 1) := by decide +kernel
theorem d_X_has_19 : decode b_X_has 19 = .ok (.istore_n 2, 1) := by decide +kernel
theorem d_X_has_20 : decode b_X_has 20 = .ok (.iload_n 2, 1) := by decide +kernel
theorem d_X_has_21 : decode b_X_has 21 = .ok (.aload_n 0, 1) := by decide +kernel
theorem d_X_has_22 : decode b_X_has 22 = .ok (.getfield 22, 3) := by decide +kernel
theorem d_X_has_25 : decode b_X_has 25 = .ok (.if_icmp .ge 56, 3) := by decide +kernel
theorem d_X_has_28 : decode b_X_has 28 = .ok (.iload_n 2, 1) := by decide +kernel
theorem d_X_has_29 : decode b_X_has 29 = .ok (.istore_n 3, 1) := by decide +kernel
theorem d_X_has_30 : decode b_X_has 30 = .ok (.iload_n 3, 1) := by decide +kernel
theorem d_X_has_31 : decode b_X_has 31 = .ok (.aload_n 0, 1) := by decide +kernel
theorem d_X_has_32 : decode b_X_has 32 = .ok (.getfield 22, 3) := by decide +kernel
theorem d_X_has_35 : decode b_X_has 35 = .ok (.if_icmp .ge 40, 3) := by decide +kernel
theorem d_X_has_38 : decode b_X_has 38 = .ok (.aload_n 0, 1) := by decide +kernel
theorem d_X_has_39 : decode b_X_has 39 = .ok (.iload_n 2, 1) := by decide +kernel
theorem d_X_has_40 : decode b_X_has 40 = .ok (.invokevirtual 134, 3) := by decide +kernel
theorem d_X_has_43 : decode b_X_has 43 = .ok (.aload_n 0, 1) := by decide +kernel
theorem d_X_has_44 : decode b_X_has 44 = .ok (.iload_n 3, 1) := by decide +kernel
theorem d_X_has_45 : decode b_X_has 45 = .ok (.invokevirtual 134, 3) := by decide +kernel
theorem d_X_has_48 : decode b_X_has 48 = .ok (.ladd, 1) := by decide +kernel
theorem d_X_has_49 : decode b_X_has 49 = .ok (.aload_n 0, 1) := by decide +kernel
theorem d_X_has_50 : decode b_X_has 50 = .ok (.getfield 27, 3) := by decide +kernel
theorem d_X_has_53 : decode b_X_has 53 = .ok (.iload_n 1, 1) := by decide +kernel
theorem d_X_has_54 : decode b_X_has 54 = .ok (.aaload, 1) := by decide +kernel
theorem d_X_has_55 : decode b_X_has 55 = .ok (.getfield 127, 3) := by decide +kernel
theorem d_X_has_58 : decode b_X_has 58 = .ok (.iload_n 2, 1) := by decide +kernel
theorem d_X_has_59 : decode b_X_has 59 = .ok (.iload_n 3, 1) := by decide +kernel
theorem d_X_has_60 : decode b_X_has 60 = .ok (.invokevirtual 138, 3) := by decide +kernel
theorem d_X_has_63 : decode b_X_has 63 = .ok (.lcmp, 1) := by decide +kernel
theorem d_X_has_64 : decode b_X_has 64 = .ok (.ifCond .le 5, 3) := by decide +kernel
theorem d_X_has_67 : decode b_X_has 67 = .ok (.iconst 0, 1) := by decide +kernel
theorem d_X_has_68 : decode b_X_has 68 = .ok (.ireturn, 1) := by decide +kernel
theorem d_X_has_69 : decode b_X_has 69 = .ok (.iinc 3 1, 3) := by decide +kernel
theorem d_X_has_72 : decode b_X_has 72 = .ok (.goto (-42), 3) := by decide +kernel
theorem d_X_has_75 : decode b_X_has 75 = .ok (.iinc 2 1, 3) := by decide +kernel
theorem d_X_has_78 : decode b_X_has 78 = .ok (.goto (-58), 3) := by decide +kernel
theorem d_X_has_81 : decode b_X_has 81 = .ok (.iconst 1, 1) := by decide +kernel
theorem d_X_has_82 : decode b_X_has 82 = .ok (.ireturn, 1) := by decide +kernel
theorem d_X_sample_0 : decode b_X_sample 0 = .ok (.iload_n 1, 1) := by decide +kernel
theorem d_X_sample_1 : decode b_X_sample 1 = .ok (.invokestatic 58, 3) := by decide +kernel
theorem d_X_sample_4 : decode b_X_sample 4 = .ok (.aload_n 0, 1) := by decide +kernel
theorem d_X_sample_5 : decode b_X_sample 5 = .ok (.getfield 27, 3) := by decide +kernel
theorem d_X_sample_8 : decode b_X_sample 8 = .ok (.iload_n 1, 1) := by decide +kernel
theorem d_X_sample_9 : decode b_X_sample 9 = .ok (.aaload, 1) := by decide +kernel
theorem d_X_sample_10 : decode b_X_sample 10 = .ok (.getfield 123, 3) := by decide +kernel
theorem d_X_sample_13 : decode b_X_sample 13 = .ok (.ifCond .eq 5, 3) := by decide +kernel
theorem d_X_sample_16 : decode b_X_sample 16 = .ok (.iconst 0, 1) := by decide +kernel
theorem d_X_sample_17 : decode b_X_sample 17 = .ok (.ireturn, 1) := by decide +kernel
theorem d_X_sample_18 : decode b_X_sample 18 = .ok (.iconst 1, 1) := by decide +kernel
theorem d_X_sample_19 : decode b_X_sample 19 = .ok (.istore_n 2, 1) := by decide +kernel
theorem d_X_sample_20 : decode b_X_sample 20 = .ok (.iload_n 2, 1) := by decide +kernel
theorem d_X_sample_21 : decode b_X_sample 21 = .ok (.aload_n 0, 1) := by decide +kernel
theorem d_X_sample_22 : decode b_X_sample 22 = .ok (.getfield 18, 3) := by decide +kernel
theorem d_X_sample_25 : decode b_X_sample 25 = .ok (.if_icmp .gt 31, 3) := by decide +kernel
theorem d_X_sample_28 : decode b_X_sample 28 = .ok (.aload_n 0, 1) := by decide +kernel
theorem d_X_sample_29 : decode b_X_sample 29 = .ok (.getfield 48, 3) := by decide +kernel
theorem d_X_sample_32 : decode b_X_sample 32 = .ok (.iload_n 2, 1) := by decide +kernel
theorem d_X_sample_33 : decode b_X_sample 33 = .ok (.iconst 1, 1) := by decide +kernel
theorem d_X_sample_34 : decode b_X_sample 34 = .ok (.isub, 1) := by decide +kernel
theorem d_X_sample_35 : decode b_X_sample 35 = .ok (.aload_n 0, 1) := by decide +kernel
theorem d_X_sample_36 : decode b_X_sample 36 = .ok (.aload_n 0, 1) := by decide +kernel
theorem d_X_sample_37 : decode b_X_sample 37 = .ok (.getfield 27, 3) := by decide +kernel
theorem d_X_sample_40 : decode b_X_sample 40 = .ok (.iload_n 1, 1) := by decide +kernel
theorem d_X_sample_41 : decode b_X_sample 41 = .ok (.aaload, 1) := by decide +kernel
theorem d_X_sample_42 : decode b_X_sample 42 = .ok (.getfield 127, 3) := by decide +kernel
theorem d_X_sample_45 : decode b_X_sample 45 = .ok (.iload_n 2, 1) := by decide +kernel
theorem d_X_sample_46 : decode b_X_sample 46 = .ok (.invokevirtual 141, 3) := by decide +kernel
theorem d_X_sample_49 : decode b_X_sample 49 = .ok (.lastore, 1) := by decide +kernel
theorem d_X_sample_50 : decode b_X_sample 50 = .ok (.iinc 2 1, 3) := by decide +kernel
theorem d_X_sample_53 : decode b_X_sample 53 = .ok (.goto (-33), 3) := by decide +kernel
theorem d_X_sample_56 : decode b_X_sample 56 = .ok (.iconst 1, 1) := by decide +kernel
theorem d_X_sample_57 : decode b_X_sample 57 = .ok (.ireturn, 1) := by decide +kernel
theorem d_X_needed_0 : decode b_X_needed 0 = .ok (.iload_n 1, 1) := by decide +kernel
theorem d_X_needed_1 : decode b_X_needed 1 = .ok (.invokestatic 58, 3) := by decide +kernel
theorem d_X_needed_4 : decode b_X_needed 4 = .ok (.aload_n 0, 1) := by decide +kernel
theorem d_X_needed_5 : decode b_X_needed 5 = .ok (.iconst 0, 1) := by decide +kernel
theorem d_X_needed_6 : decode b_X_needed 6 = .ok (.putfield 55, 3) := by decide +kernel
theorem d_X_needed_9 : decode b_X_needed 9 = .ok (.aload_n 0, 1) := by decide +kernel
theorem d_X_needed_10 : decode b_X_needed 10 = .ok (.getfield 27, 3) := by decide +kernel
theorem d_X_needed_13 : decode b_X_needed 13 = .ok (.iload_n 1, 1) := by decide +kernel
theorem d_X_needed_14 : decode b_X_needed 14 = .ok (.aaload, 1) := by decide +kernel
theorem d_X_needed_15 : decode b_X_needed 15 = .ok (.getfield 123, 3) := by decide +kernel
theorem d_X_needed_18 : decode b_X_needed 18 = .ok (.ifCond .eq 17, 3) := by decide +kernel
theorem d_X_needed_21 : decode b_X_needed 21 = .ok (.aload_n 0, 1) := by decide +kernel
theorem d_X_needed_22 : decode b_X_needed 22 = .ok (.iconst 0, 1) := by decide +kernel
theorem d_X_needed_23 : decode b_X_needed 23 = .ok (.iconst 0, 1) := by decide +kernel
theorem d_X_needed_24 : decode b_X_needed 24 = .ok (.ldc2_w 145, 3) := by decide +kernel
theorem d_X_needed_27 : decode b_X_needed 27 = .ok (.invokevirtual 147, 3) := by decide +kernel
theorem d_X_needed_30 : decode b_X_needed 30 = .ok (.aload_n 0, 1) := by decide +kernel
theorem d_X_needed_31 : decode b_X_needed 31 = .ok (.getfield 55, 3) := by decide +kernel
theorem d_X_needed_34 : decode b_X_needed 34 = .ok (.ireturn, 1) := by decide +kernel
theorem d_X_needed_35 : decode b_X_needed 35 = .ok (.aload_n 0, 1) := by decide +kernel
theorem d_X_needed_36 : decode b_X_needed 36 = .ok (.getfield 41, 3) := by decide +kernel
theorem d_X_needed_39 : decode b_X_needed 39 = .ok (.aload_n 0, 1) := by decide +kernel
theorem d_X_needed_40 : decode b_X_needed 40 = .ok (.getfield 27, 3) := by decide +kernel
theorem d_X_needed_43 : decode b_X_needed 43 = .ok (.iload_n 1, 1) := by decide +kernel
theorem d_X_needed_44 : decode b_X_needed 44 = .ok (.aaload, 1) := by decide +kernel
theorem d_X_needed_45 : decode b_X_needed 45 = .ok (.getfield 127, 3) := by decide +kernel
theorem d_X_needed_48 : decode b_X_needed 48 = .ok (.invokevirtual 150, 3) := by decide +kernel
theorem d_X_needed_51 : decode b_X_needed 51 = .ok (.aload_n 0, 1) := by decide +kernel
theorem d_X_needed_52 : decode b_X_needed 52 = .ok (.invokevirtual 154, 3) := by decide +kernel
theorem d_X_needed_55 : decode b_X_needed 55 = .ok (.aload_n 0, 1) := by decide +kernel
theorem d_X_needed_56 : decode b_X_needed 56 = .ok (.invokevirtual 157, 3) := by decide +kernel
theorem d_X_needed_59 : decode b_X_needed 59 = .ok (.aload_n 0, 1) := by decide +kernel
theorem d_X_needed_60 : decode b_X_needed 60 = .ok (.invokevirtual 160, 3) := by decide +kernel
theorem d_X_needed_63 : decode b_X_needed 63 = .ok (.aload_n 0, 1) := by decide +kernel
theorem d_X_needed_64 : decode b_X_needed 64 = .ok (.getfield 55, 3) := by decide +kernel
theorem d_X_needed_67 : decode b_X_needed 67 = .ok (.ireturn, 1) := by decide +kernel
theorem d_X_needs_0 : decode b_X_needs 0 = .ok (.iload_n 1, 1) := by decide +kernel
theorem d_X_needs_1 : decode b_X_needs 1 = .ok (.ifCond .lt 20, 3) := by decide +kernel
theorem d_X_needs_4 : decode b_X_needs 4 = .ok (.iload_n 1, 1) := by decide +kernel
theorem d_X_needs_5 : decode b_X_needs 5 = .ok (.aload_n 0, 1) := by decide +kernel
theorem d_X_needs_6 : decode b_X_needs 6 = .ok (.getfield 55, 3) := by decide +kernel
theorem d_X_needs_9 : decode b_X_needs 9 = .ok (.if_icmp .ge 12, 3) := by decide +kernel
theorem d_X_needs_12 : decode b_X_needs 12 = .ok (.iload_n 2, 1) := by decide +kernel
theorem d_X_needs_13 : decode b_X_needs 13 = .ok (.ifCond .lt 8, 3) := by decide +kernel
theorem d_X_needs_16 : decode b_X_needs 16 = .ok (.iload_n 2, 1) := by decide +kernel
theorem d_X_needs_17 : decode b_X_needs 17 = .ok (.iconst 3, 1) := by decide +kernel
theorem d_X_needs_18 : decode b_X_needs 18 = .ok (.if_icmp .lt 13, 3) := by decide +kernel
theorem d_X_needs_21 : decode b_X_needs 21 = .ok (.new 163, 3) := by decide +kernel
theorem d_X_needs_24 : decode b_X_needs 24 = .ok (.dup, 1) := by decide +kernel
theorem d_X_needs_25 : decode b_X_needs 25 = .ok (.ldc 165, 2) := by decide +kernel
theorem d_X_needs_27 : decode b_X_needs 27 = .ok (.invokespecial 167, 3) := by decide +kernel
theorem d_X_needs_30 : decode b_X_needs 30 = .ok (.athrow, 1) := by decide +kernel
theorem d_X_needs_31 : decode b_X_needs 31 = .ok (.aload_n 0, 1) := by decide +kernel
theorem d_X_needs_32 : decode b_X_needs 32 = .ok (.getfield 52, 3) := by decide +kernel
theorem d_X_needs_35 : decode b_X_needs 35 = .ok (.iconst 3, 1) := by decide +kernel
theorem d_X_needs_36 : decode b_X_needs 36 = .ok (.iload_n 1, 1) := by decide +kernel
theorem d_X_needs_37 : decode b_X_needs 37 = .ok (.imul, 1) := by decide +kernel
theorem d_X_needs_38 : decode b_X_needs 38 = .ok (.iload_n 2, 1) := by decide +kernel
theorem d_X_needs_39 : decode b_X_needs 39 = .ok (.iadd, 1) := by decide +kernel
theorem d_X_needs_40 : decode b_X_needs 40 = .ok (.laload, 1) := by decide +kernel
theorem d_X_needs_41 : decode b_X_needs 41 = .ok (.lreturn, 1) := by decide +kernel
theorem d_X_fits_0 : decode b_X_fits 0 = .ok (.iload_n 1, 1) := by decide +kernel
theorem d_X_fits_1 : decode b_X_fits 1 = .ok (.invokestatic 58, 3) := by decide +kernel
theorem d_X_fits_4 : decode b_X_fits 4 = .ok (.aload_n 0, 1) := by decide +kernel
theorem d_X_fits_5 : decode b_X_fits 5 = .ok (.iload_n 2, 1) := by decide +kernel
theorem d_X_fits_6 : decode b_X_fits 6 = .ok (.invokevirtual 64, 3) := by decide +kernel
theorem d_X_fits_9 : decode b_X_fits 9 = .ok (.iload_n 3, 1) := by decide +kernel
theorem d_X_fits_10 : decode b_X_fits 10 = .ok (.iconst 1, 1) := by decide +kernel
theorem d_X_fits_11 : decode b_X_fits 11 = .ok (.if_icmp .lt 9, 3) := by decide +kernel
theorem d_X_fits_14 : decode b_X_fits 14 = .ok (.iload_n 3, 1) := by decide +kernel
theorem d_X_fits_15 : decode b_X_fits 15 = .ok (.bipush 62, 2) := by decide +kernel
theorem d_X_fits_17 : decode b_X_fits 17 = .ok (.if_icmp .le 13, 3) := by decide +kernel
theorem d_X_fits_20 : decode b_X_fits 20 = .ok (.new 170, 3) := by decide +kernel
theorem d_X_fits_23 : decode b_X_fits 23 = .ok (.dup, 1) := by decide +kernel
theorem d_X_fits_24 : decode b_X_fits 24 = .ok (.ldc 172, 2) := by decide +kernel
theorem d_X_fits_26 : decode b_X_fits 26 = .ok (.invokespecial 174, 3) := by decide +kernel
theorem d_X_fits_29 : decode b_X_fits 29 = .ok (.athrow, 1) := by decide +kernel
theorem d_X_fits_30 : decode b_X_fits 30 = .ok (.lconst 1, 1) := by decide +kernel
theorem d_X_fits_31 : decode b_X_fits 31 = .ok (.iload_n 3, 1) := by decide +kernel
theorem d_X_fits_32 : decode b_X_fits 32 = .ok (.iconst 1, 1) := by decide +kernel
theorem d_X_fits_33 : decode b_X_fits 33 = .ok (.isub, 1) := by decide +kernel
theorem d_X_fits_34 : decode b_X_fits 34 = .ok (.lshl, 1) := by decide +kernel
theorem d_X_fits_35 : decode b_X_fits 35 = .ok (.lstore 4, 2) := by decide +kernel
theorem d_X_fits_37 : decode b_X_fits 37 = .ok (.aload_n 0, 1) := by decide +kernel
theorem d_X_fits_38 : decode b_X_fits 38 = .ok (.getfield 27, 3) := by decide +kernel
theorem d_X_fits_41 : decode b_X_fits 41 = .ok (.iload_n 1, 1) := by decide +kernel
theorem d_X_fits_42 : decode b_X_fits 42 = .ok (.aaload, 1) := by decide +kernel
theorem d_X_fits_43 : decode b_X_fits 43 = .ok (.iload_n 2, 1) := by decide +kernel
theorem d_X_fits_44 : decode b_X_fits 44 = .ok (.iconst 0, 1) := by decide +kernel
theorem d_X_fits_45 : decode b_X_fits 45 = .ok (.invokevirtual 83, 3) := by decide +kernel
theorem d_X_fits_48 : decode b_X_fits 48 = .ok (.lload 4, 2) := by decide +kernel
theorem d_X_fits_50 : decode b_X_fits 50 = .ok (.lconst 1, 1) := by decide +kernel
theorem d_X_fits_51 : decode b_X_fits 51 = .ok (.lsub, 1) := by decide +kernel
theorem d_X_fits_52 : decode b_X_fits 52 = .ok (.lcmp, 1) := by decide +kernel
theorem d_X_fits_53 : decode b_X_fits 53 = .ok (.ifCond .gt 25, 3) := by decide +kernel
theorem d_X_fits_56 : decode b_X_fits 56 = .ok (.aload_n 0, 1) := by decide +kernel
theorem d_X_fits_57 : decode b_X_fits 57 = .ok (.getfield 27, 3) := by decide +kernel
theorem d_X_fits_60 : decode b_X_fits 60 = .ok (.iload_n 1, 1) := by decide +kernel
theorem d_X_fits_61 : decode b_X_fits 61 = .ok (.aaload, 1) := by decide +kernel
theorem d_X_fits_62 : decode b_X_fits 62 = .ok (.iload_n 2, 1) := by decide +kernel
theorem d_X_fits_63 : decode b_X_fits 63 = .ok (.ineg, 1) := by decide +kernel
theorem d_X_fits_64 : decode b_X_fits 64 = .ok (.iconst 0, 1) := by decide +kernel
theorem d_X_fits_65 : decode b_X_fits 65 = .ok (.invokevirtual 83, 3) := by decide +kernel
theorem d_X_fits_68 : decode b_X_fits 68 = .ok (.lload 4, 2) := by decide +kernel
theorem d_X_fits_70 : decode b_X_fits 70 = .ok (.lcmp, 1) := by decide +kernel
theorem d_X_fits_71 : decode b_X_fits 71 = .ok (.ifCond .gt 7, 3) := by decide +kernel
theorem d_X_fits_74 : decode b_X_fits 74 = .ok (.iconst 1, 1) := by decide +kernel
theorem d_X_fits_75 : decode b_X_fits 75 = .ok (.goto 4, 3) := by decide +kernel
theorem d_X_fits_78 : decode b_X_fits 78 = .ok (.iconst 0, 1) := by decide +kernel
theorem d_X_fits_79 : decode b_X_fits 79 = .ok (.ireturn, 1) := by decide +kernel
theorem d_X_array_0 : decode b_X_array 0 = .ok (.iload_n 1, 1) := by decide +kernel
theorem d_X_array_1 : decode b_X_array 1 = .ok (.invokestatic 58, 3) := by decide +kernel
theorem d_X_array_4 : decode b_X_array 4 = .ok (.aload_n 0, 1) := by decide +kernel
theorem d_X_array_5 : decode b_X_array 5 = .ok (.iload_n 2, 1) := by decide +kernel
theorem d_X_array_6 : decode b_X_array 6 = .ok (.invokevirtual 112, 3) := by decide +kernel
theorem d_X_array_9 : decode b_X_array 9 = .ok (.aload_n 0, 1) := by decide +kernel
theorem d_X_array_10 : decode b_X_array 10 = .ok (.iload_n 3, 1) := by decide +kernel
theorem d_X_array_11 : decode b_X_array 11 = .ok (.invokevirtual 112, 3) := by decide +kernel
theorem d_X_array_14 : decode b_X_array 14 = .ok (.iload_n 2, 1) := by decide +kernel
theorem d_X_array_15 : decode b_X_array 15 = .ok (.iload_n 3, 1) := by decide +kernel
theorem d_X_array_16 : decode b_X_array 16 = .ok (.if_icmp .ne 13, 3) := by decide +kernel
theorem d_X_array_19 : decode b_X_array 19 = .ok (.new 163, 3) := by decide +kernel
theorem d_X_array_22 : decode b_X_array 22 = .ok (.dup, 1) := by decide +kernel
theorem d_X_array_23 : decode b_X_array 23 = .ok (.ldc 175, 2) := by decide +kernel
theorem d_X_array_25 : decode b_X_array 25 = .ok (.invokespecial 167, 3) := by decide +kernel
theorem d_X_array_28 : decode b_X_array 28 = .ok (.athrow, 1) := by decide +kernel
theorem d_X_array_29 : decode b_X_array 29 = .ok (.aload_n 0, 1) := by decide +kernel
theorem d_X_array_30 : decode b_X_array 30 = .ok (.getfield 27, 3) := by decide +kernel
theorem d_X_array_33 : decode b_X_array 33 = .ok (.iload_n 1, 1) := by decide +kernel
theorem d_X_array_34 : decode b_X_array 34 = .ok (.aaload, 1) := by decide +kernel
theorem d_X_array_35 : decode b_X_array 35 = .ok (.astore 4, 2) := by decide +kernel
theorem d_X_array_37 : decode b_X_array 37 = .ok (.aload 4, 2) := by decide +kernel
theorem d_X_array_39 : decode b_X_array 39 = .ok (.iload_n 2, 1) := by decide +kernel
theorem d_X_array_40 : decode b_X_array 40 = .ok (.ineg, 1) := by decide +kernel
theorem d_X_array_41 : decode b_X_array 41 = .ok (.iconst 0, 1) := by decide +kernel
theorem d_X_array_42 : decode b_X_array 42 = .ok (.invokevirtual 83, 3) := by decide +kernel
theorem d_X_array_45 : decode b_X_array 45 = .ok (.lconst 0, 1) := by decide +kernel
theorem d_X_array_46 : decode b_X_array 46 = .ok (.lcmp, 1) := by decide +kernel
theorem d_X_array_47 : decode b_X_array 47 = .ok (.ifCond .gt 20, 3) := by decide +kernel
theorem d_X_array_50 : decode b_X_array 50 = .ok (.aload 4, 2) := by decide +kernel
theorem d_X_array_52 : decode b_X_array 52 = .ok (.iload_n 2, 1) := by decide +kernel
theorem d_X_array_53 : decode b_X_array 53 = .ok (.iload_n 3, 1) := by decide +kernel
theorem d_X_array_54 : decode b_X_array 54 = .ok (.ineg, 1) := by decide +kernel
theorem d_X_array_55 : decode b_X_array 55 = .ok (.invokevirtual 83, 3) := by decide +kernel
theorem d_X_array_58 : decode b_X_array 58 = .ok (.ldc2_w 145, 3) := by decide +kernel
theorem d_X_array_61 : decode b_X_array 61 = .ok (.lcmp, 1) := by decide +kernel
theorem d_X_array_62 : decode b_X_array 62 = .ok (.ifCond .gt 5, 3) := by decide +kernel
theorem d_X_array_65 : decode b_X_array 65 = .ok (.iconst 1, 1) := by decide +kernel
theorem d_X_array_66 : decode b_X_array 66 = .ok (.ireturn, 1) := by decide +kernel
theorem d_X_array_67 : decode b_X_array 67 = .ok (.aload_n 0, 1) := by decide +kernel
theorem d_X_array_68 : decode b_X_array 68 = .ok (.getfield 45, 3) := by decide +kernel
theorem d_X_array_71 : decode b_X_array 71 = .ok (.aload 4, 2) := by decide +kernel
theorem d_X_array_73 : decode b_X_array 73 = .ok (.getfield 127, 3) := by decide +kernel
theorem d_X_array_76 : decode b_X_array 76 = .ok (.invokevirtual 150, 3) := by decide +kernel
theorem d_X_array_79 : decode b_X_array 79 = .ok (.aload_n 0, 1) := by decide +kernel
theorem d_X_array_80 : decode b_X_array 80 = .ok (.getfield 45, 3) := by decide +kernel
theorem d_X_array_83 : decode b_X_array 83 = .ok (.iload_n 2, 1) := by decide +kernel
theorem d_X_array_84 : decode b_X_array 84 = .ok (.ineg, 1) := by decide +kernel
theorem d_X_array_85 : decode b_X_array 85 = .ok (.invokestatic 177, 3) := by decide +kernel
theorem d_X_array_88 : decode b_X_array 88 = .ok (.iload_n 2, 1) := by decide +kernel
theorem d_X_array_89 : decode b_X_array 89 = .ok (.ineg, 1) := by decide +kernel
theorem d_X_array_90 : decode b_X_array 90 = .ok (.invokestatic 177, 3) := by decide +kernel
theorem d_X_array_93 : decode b_X_array 93 = .ok (.lconst 0, 1) := by decide +kernel
theorem d_X_array_94 : decode b_X_array 94 = .ok (.invokevirtual 180, 3) := by decide +kernel
theorem d_X_array_97 : decode b_X_array 97 = .ok (.aload_n 0, 1) := by decide +kernel
theorem d_X_array_98 : decode b_X_array 98 = .ok (.getfield 45, 3) := by decide +kernel
theorem d_X_array_101 : decode b_X_array 101 = .ok (.iload_n 2, 1) := by decide +kernel
theorem d_X_array_102 : decode b_X_array 102 = .ok (.invokestatic 177, 3) := by decide +kernel
theorem d_X_array_105 : decode b_X_array 105 = .ok (.iload_n 3, 1) := by decide +kernel
theorem d_X_array_106 : decode b_X_array 106 = .ok (.ineg, 1) := by decide +kernel
theorem d_X_array_107 : decode b_X_array 107 = .ok (.invokestatic 177, 3) := by decide +kernel
theorem d_X_array_110 : decode b_X_array 110 = .ok (.ldc2_w 145, 3) := by decide +kernel
theorem d_X_array_113 : decode b_X_array 113 = .ok (.invokevirtual 180, 3) := by decide +kernel
theorem d_X_array_116 : decode b_X_array 116 = .ok (.aload_n 0, 1) := by decide +kernel
theorem d_X_array_117 : decode b_X_array 117 = .ok (.getfield 45, 3) := by decide +kernel
theorem d_X_array_120 : decode b_X_array 120 = .ok (.invokevirtual 183, 3) := by decide +kernel
theorem d_X_array_123 : decode b_X_array 123 = .ok (.ifCond .eq 7, 3) := by decide +kernel
theorem d_X_array_126 : decode b_X_array 126 = .ok (.iconst 0, 1) := by decide +kernel
theorem d_X_array_127 : decode b_X_array 127 = .ok (.goto 4, 3) := by decide +kernel
theorem d_X_array_130 : decode b_X_array 130 = .ok (.iconst (-1), 1) := by decide +kernel
theorem d_X_array_131 : decode b_X_array 131 = .ok (.ireturn, 1) := by decide +kernel
theorem d_X_told_0 : decode b_X_told 0 = .ok (.iload_n 1, 1) := by decide +kernel
theorem d_X_told_1 : decode b_X_told 1 = .ok (.ifCond .lt 9, 3) := by decide +kernel
theorem d_X_told_4 : decode b_X_told 4 = .ok (.iload_n 1, 1) := by decide +kernel
theorem d_X_told_5 : decode b_X_told 5 = .ok (.bipush 9, 2) := by decide +kernel
theorem d_X_told_7 : decode b_X_told 7 = .ok (.if_icmp .le 13, 3) := by decide +kernel
theorem d_X_told_10 : decode b_X_told 10 = .ok (.new 163, 3) := by decide +kernel
theorem d_X_told_13 : decode b_X_told 13 = .ok (.dup, 1) := by decide +kernel
theorem d_X_told_14 : decode b_X_told 14 = .ok (.ldc 187, 2) := by decide +kernel
theorem d_X_told_16 : decode b_X_told 16 = .ok (.invokespecial 167, 3) := by decide +kernel
theorem d_X_told_19 : decode b_X_told 19 = .ok (.athrow, 1) := by decide +kernel
theorem d_X_told_20 : decode b_X_told 20 = .ok (.iload_n 1, 1) := by decide +kernel
theorem d_X_told_21 : decode b_X_told 21 = .ok (.ifCond .ne 8, 3) := by decide +kernel
theorem d_X_told_24 : decode b_X_told 24 = .ok (.aload_n 0, 1) := by decide +kernel
theorem d_X_told_25 : decode b_X_told 25 = .ok (.getfield 18, 3) := by decide +kernel
theorem d_X_told_28 : decode b_X_told 28 = .ok (.ireturn, 1) := by decide +kernel
theorem d_X_told_29 : decode b_X_told 29 = .ok (.iload_n 1, 1) := by decide +kernel
theorem d_X_told_30 : decode b_X_told 30 = .ok (.bipush 9, 2) := by decide +kernel
theorem d_X_told_32 : decode b_X_told 32 = .ok (.if_icmp .ne 10, 3) := by decide +kernel
theorem d_X_told_35 : decode b_X_told 35 = .ok (.aload_n 0, 1) := by decide +kernel
theorem d_X_told_36 : decode b_X_told 36 = .ok (.invokevirtual 189, 3) := by decide +kernel
theorem d_X_told_39 : decode b_X_told 39 = .ok (.goto 17, 3) := by decide +kernel
theorem d_X_told_42 : decode b_X_told 42 = .ok (.aload_n 0, 1) := by decide +kernel
theorem d_X_told_43 : decode b_X_told 43 = .ok (.getfield 27, 3) := by decide +kernel
theorem d_X_told_46 : decode b_X_told 46 = .ok (.iload_n 1, 1) := by decide +kernel
theorem d_X_told_47 : decode b_X_told 47 = .ok (.iconst 1, 1) := by decide +kernel
theorem d_X_told_48 : decode b_X_told 48 = .ok (.isub, 1) := by decide +kernel
theorem d_X_told_49 : decode b_X_told 49 = .ok (.aaload, 1) := by decide +kernel
theorem d_X_told_50 : decode b_X_told 50 = .ok (.getfield 89, 3) := by decide +kernel
theorem d_X_told_53 : decode b_X_told 53 = .ok (.invokevirtual 193, 3) := by decide +kernel
theorem d_X_told_56 : decode b_X_told 56 = .ok (.ireturn, 1) := by decide +kernel
theorem d_X_checkShape_0 : decode b_X_checkShape 0 = .ok (.iload_n 0, 1) := by decide +kernel
theorem d_X_checkShape_1 : decode b_X_checkShape 1 = .ok (.ifCond .lt 9, 3) := by decide +kernel
theorem d_X_checkShape_4 : decode b_X_checkShape 4 = .ok (.iload_n 0, 1) := by decide +kernel
theorem d_X_checkShape_5 : decode b_X_checkShape 5 = .ok (.bipush 8, 2) := by decide +kernel
theorem d_X_checkShape_7 : decode b_X_checkShape 7 = .ok (.if_icmp .lt 13, 3) := by decide +kernel
theorem d_X_checkShape_10 : decode b_X_checkShape 10 = .ok (.new 163, 3) := by decide +kernel
theorem d_X_checkShape_13 : decode b_X_checkShape 13 = .ok (.dup, 1) := by decide +kernel
theorem d_X_checkShape_14 : decode b_X_checkShape 14 = .ok (.ldc 196, 2) := by decide +kernel
theorem d_X_checkShape_16 : decode b_X_checkShape 16 = .ok (.invokespecial 167, 3) := by decide +kernel
theorem d_X_checkShape_19 : decode b_X_checkShape 19 = .ok (.athrow, 1) := by decide +kernel
theorem d_X_checkShape_20 : decode b_X_checkShape 20 = .ok (.return_, 1) := by decide +kernel
theorem d_X_checkShapes_0 : decode b_X_checkShapes 0 = .ok (.iload_n 0, 1) := by decide +kernel
theorem d_X_checkShapes_1 : decode b_X_checkShapes 1 = .ok (.invokestatic 58, 3) := by decide +kernel
theorem d_X_checkShapes_4 : decode b_X_checkShapes 4 = .ok (.iload_n 1, 1) := by decide +kernel
theorem d_X_checkShapes_5 : decode b_X_checkShapes 5 = .ok (.invokestatic 58, 3) := by decide +kernel
theorem d_X_checkShapes_8 : decode b_X_checkShapes 8 = .ok (.iload_n 2, 1) := by decide +kernel
theorem d_X_checkShapes_9 : decode b_X_checkShapes 9 = .ok (.invokestatic 58, 3) := by decide +kernel
theorem d_X_checkShapes_12 : decode b_X_checkShapes 12 = .ok (.return_, 1) := by decide +kernel
theorem d_X_checkName_0 : decode b_X_checkName 0 = .ok (.iload_n 1, 1) := by decide +kernel
theorem d_X_checkName_1 : decode b_X_checkName 1 = .ok (.iconst 1, 1) := by decide +kernel
theorem d_X_checkName_2 : decode b_X_checkName 2 = .ok (.if_icmp .lt 11, 3) := by decide +kernel
theorem d_X_checkName_5 : decode b_X_checkName 5 = .ok (.iload_n 1, 1) := by decide +kernel
theorem d_X_checkName_6 : decode b_X_checkName 6 = .ok (.aload_n 0, 1) := by decide +kernel
theorem d_X_checkName_7 : decode b_X_checkName 7 = .ok (.getfield 18, 3) := by decide +kernel
theorem d_X_checkName_10 : decode b_X_checkName 10 = .ok (.if_icmp .le 13, 3) := by decide +kernel
theorem d_X_checkName_13 : decode b_X_checkName 13 = .ok (.new 163, 3) := by decide +kernel
theorem d_X_checkName_16 : decode b_X_checkName 16 = .ok (.dup, 1) := by decide +kernel
theorem d_X_checkName_17 : decode b_X_checkName 17 = .ok (.ldc 198, 2) := by decide +kernel
theorem d_X_checkName_19 : decode b_X_checkName 19 = .ok (.invokespecial 167, 3) := by decide +kernel
theorem d_X_checkName_22 : decode b_X_checkName 22 = .ok (.athrow, 1) := by decide +kernel
theorem d_X_checkName_23 : decode b_X_checkName 23 = .ok (.return_, 1) := by decide +kernel
theorem d_X_checkTerm_0 : decode b_X_checkTerm 0 = .ok (.iload_n 1, 1) := by decide +kernel
theorem d_X_checkTerm_1 : decode b_X_checkTerm 1 = .ok (.aload_n 0, 1) := by decide +kernel
theorem d_X_checkTerm_2 : decode b_X_checkTerm 2 = .ok (.getfield 18, 3) := by decide +kernel
theorem d_X_checkTerm_5 : decode b_X_checkTerm 5 = .ok (.ineg, 1) := by decide +kernel
theorem d_X_checkTerm_6 : decode b_X_checkTerm 6 = .ok (.if_icmp .lt 11, 3) := by decide +kernel
theorem d_X_checkTerm_9 : decode b_X_checkTerm 9 = .ok (.iload_n 1, 1) := by decide +kernel
theorem d_X_checkTerm_10 : decode b_X_checkTerm 10 = .ok (.aload_n 0, 1) := by decide +kernel
theorem d_X_checkTerm_11 : decode b_X_checkTerm 11 = .ok (.getfield 18, 3) := by decide +kernel
theorem d_X_checkTerm_14 : decode b_X_checkTerm 14 = .ok (.if_icmp .le 13, 3) := by decide +kernel
theorem d_X_checkTerm_17 : decode b_X_checkTerm 17 = .ok (.new 163, 3) := by decide +kernel
theorem d_X_checkTerm_20 : decode b_X_checkTerm 20 = .ok (.dup, 1) := by decide +kernel
theorem d_X_checkTerm_21 : decode b_X_checkTerm 21 = .ok (.ldc 200, 2) := by decide +kernel
theorem d_X_checkTerm_23 : decode b_X_checkTerm 23 = .ok (.invokespecial 167, 3) := by decide +kernel
theorem d_X_checkTerm_26 : decode b_X_checkTerm 26 = .ok (.athrow, 1) := by decide +kernel
theorem d_X_checkTerm_27 : decode b_X_checkTerm 27 = .ok (.return_, 1) := by decide +kernel
theorem d_X_checkGiven_0 : decode b_X_checkGiven 0 = .ok (.lload_n 0, 1) := by decide +kernel
theorem d_X_checkGiven_1 : decode b_X_checkGiven 1 = .ok (.ldc2_w 202, 3) := by decide +kernel
theorem d_X_checkGiven_4 : decode b_X_checkGiven 4 = .ok (.lcmp, 1) := by decide +kernel
theorem d_X_checkGiven_5 : decode b_X_checkGiven 5 = .ok (.ifCond .lt 11, 3) := by decide +kernel
theorem d_X_checkGiven_8 : decode b_X_checkGiven 8 = .ok (.lload_n 0, 1) := by decide +kernel
theorem d_X_checkGiven_9 : decode b_X_checkGiven 9 = .ok (.ldc2_w 204, 3) := by decide +kernel
theorem d_X_checkGiven_12 : decode b_X_checkGiven 12 = .ok (.lcmp, 1) := by decide +kernel
theorem d_X_checkGiven_13 : decode b_X_checkGiven 13 = .ok (.ifCond .le 13, 3) := by decide +kernel
theorem d_X_checkGiven_16 : decode b_X_checkGiven 16 = .ok (.new 170, 3) := by decide +kernel
theorem d_X_checkGiven_19 : decode b_X_checkGiven 19 = .ok (.dup, 1) := by decide +kernel
theorem d_X_checkGiven_20 : decode b_X_checkGiven 20 = .ok (.ldc 206, 2) := by decide +kernel
theorem d_X_checkGiven_22 : decode b_X_checkGiven 22 = .ok (.invokespecial 174, 3) := by decide +kernel
theorem d_X_checkGiven_25 : decode b_X_checkGiven 25 = .ok (.athrow, 1) := by decide +kernel
theorem d_X_checkGiven_26 : decode b_X_checkGiven 26 = .ok (.return_, 1) := by decide +kernel
theorem d_X_placeOf_0 : decode b_X_placeOf 0 = .ok (.iload_n 0, 1) := by decide +kernel
theorem d_X_placeOf_1 : decode b_X_placeOf 1 = .ok (.ifCond .le 11, 3) := by decide +kernel
theorem d_X_placeOf_4 : decode b_X_placeOf 4 = .ok (.iconst 2, 1) := by decide +kernel
theorem d_X_placeOf_5 : decode b_X_placeOf 5 = .ok (.iload_n 0, 1) := by decide +kernel
theorem d_X_placeOf_6 : decode b_X_placeOf 6 = .ok (.iconst 1, 1) := by decide +kernel
theorem d_X_placeOf_7 : decode b_X_placeOf 7 = .ok (.isub, 1) := by decide +kernel
theorem d_X_placeOf_8 : decode b_X_placeOf 8 = .ok (.imul, 1) := by decide +kernel
theorem d_X_placeOf_9 : decode b_X_placeOf 9 = .ok (.goto 11, 3) := by decide +kernel
theorem d_X_placeOf_12 : decode b_X_placeOf 12 = .ok (.iconst 2, 1) := by decide +kernel
theorem d_X_placeOf_13 : decode b_X_placeOf 13 = .ok (.iload_n 0, 1) := by decide +kernel
theorem d_X_placeOf_14 : decode b_X_placeOf 14 = .ok (.ineg, 1) := by decide +kernel
theorem d_X_placeOf_15 : decode b_X_placeOf 15 = .ok (.iconst 1, 1) := by decide +kernel
theorem d_X_placeOf_16 : decode b_X_placeOf 16 = .ok (.isub, 1) := by decide +kernel
theorem d_X_placeOf_17 : decode b_X_placeOf 17 = .ok (.imul, 1) := by decide +kernel
theorem d_X_placeOf_18 : decode b_X_placeOf 18 = .ok (.iconst 1, 1) := by decide +kernel
theorem d_X_placeOf_19 : decode b_X_placeOf 19 = .ok (.iadd, 1) := by decide +kernel
theorem d_X_placeOf_20 : decode b_X_placeOf 20 = .ok (.ireturn, 1) := by decide +kernel
theorem d_X_termAt_0 : decode b_X_termAt 0 = .ok (.iload_n 0, 1) := by decide +kernel
theorem d_X_termAt_1 : decode b_X_termAt 1 = .ok (.iconst 2, 1) := by decide +kernel
theorem d_X_termAt_2 : decode b_X_termAt 2 = .ok (.idiv, 1) := by decide +kernel
theorem d_X_termAt_3 : decode b_X_termAt 3 = .ok (.iconst 1, 1) := by decide +kernel
theorem d_X_termAt_4 : decode b_X_termAt 4 = .ok (.iadd, 1) := by decide +kernel
theorem d_X_termAt_5 : decode b_X_termAt 5 = .ok (.istore_n 1, 1) := by decide +kernel
theorem d_X_termAt_6 : decode b_X_termAt 6 = .ok (.iload_n 0, 1) := by decide +kernel
theorem d_X_termAt_7 : decode b_X_termAt 7 = .ok (.iconst 2, 1) := by decide +kernel
theorem d_X_termAt_8 : decode b_X_termAt 8 = .ok (.irem, 1) := by decide +kernel
theorem d_X_termAt_9 : decode b_X_termAt 9 = .ok (.ifCond .ne 7, 3) := by decide +kernel
theorem d_X_termAt_12 : decode b_X_termAt 12 = .ok (.iload_n 1, 1) := by decide +kernel
theorem d_X_termAt_13 : decode b_X_termAt 13 = .ok (.goto 5, 3) := by decide +kernel
theorem d_X_termAt_16 : decode b_X_termAt 16 = .ok (.iload_n 1, 1) := by decide +kernel
theorem d_X_termAt_17 : decode b_X_termAt 17 = .ok (.ineg, 1) := by decide +kernel
theorem d_X_termAt_18 : decode b_X_termAt 18 = .ok (.ireturn, 1) := by decide +kernel
theorem d_X_placeOfNextName_0 : decode b_X_placeOfNextName 0 = .ok (.iload_n 0, 1) := by decide +kernel
theorem d_X_placeOfNextName_1 : decode b_X_placeOfNextName 1 = .ok (.iconst 1, 1) := by decide +kernel
theorem d_X_placeOfNextName_2 : decode b_X_placeOfNextName 2 = .ok (.ior, 1) := by decide +kernel
theorem d_X_placeOfNextName_3 : decode b_X_placeOfNextName 3 = .ok (.iconst 1, 1) := by decide +kernel
theorem d_X_placeOfNextName_4 : decode b_X_placeOfNextName 4 = .ok (.iadd, 1) := by decide +kernel
theorem d_X_placeOfNextName_5 : decode b_X_placeOfNextName 5 = .ok (.ireturn, 1) := by decide +kernel
theorem d_X_plus_0 : decode b_X_plus 0 = .ok (.lload_n 0, 1) := by decide +kernel
theorem d_X_plus_1 : decode b_X_plus 1 = .ok (.ldc2_w 87, 3) := by decide +kernel
theorem d_X_plus_4 : decode b_X_plus 4 = .ok (.lcmp, 1) := by decide +kernel
theorem d_X_plus_5 : decode b_X_plus 5 = .ok (.ifCond .eq 11, 3) := by decide +kernel
theorem d_X_plus_8 : decode b_X_plus 8 = .ok (.lload_n 2, 1) := by decide +kernel
theorem d_X_plus_9 : decode b_X_plus 9 = .ok (.ldc2_w 87, 3) := by decide +kernel
theorem d_X_plus_12 : decode b_X_plus 12 = .ok (.lcmp, 1) := by decide +kernel
theorem d_X_plus_13 : decode b_X_plus 13 = .ok (.ifCond .ne 9, 3) := by decide +kernel
theorem d_X_plus_16 : decode b_X_plus 16 = .ok (.ldc2_w 87, 3) := by decide +kernel
theorem d_X_plus_19 : decode b_X_plus 19 = .ok (.goto 6, 3) := by decide +kernel
theorem d_X_plus_22 : decode b_X_plus 22 = .ok (.lload_n 0, 1) := by decide +kernel
theorem d_X_plus_23 : decode b_X_plus 23 = .ok (.lload_n 2, 1) := by decide +kernel
theorem d_X_plus_24 : decode b_X_plus 24 = .ok (.ladd, 1) := by decide +kernel
theorem d_X_plus_25 : decode b_X_plus 25 = .ok (.lreturn, 1) := by decide +kernel
theorem d_X_takeMade_0 : decode b_X_takeMade 0 = .ok (.aload_n 0, 1) := by decide +kernel
theorem d_X_takeMade_1 : decode b_X_takeMade 1 = .ok (.getfield 34, 3) := by decide +kernel
theorem d_X_takeMade_4 : decode b_X_takeMade 4 = .ok (.getfield 123, 3) := by decide +kernel
theorem d_X_takeMade_7 : decode b_X_takeMade 7 = .ok (.ifCond .ne 26, 3) := by decide +kernel
theorem d_X_takeMade_10 : decode b_X_takeMade 10 = .ok (.aload_n 0, 1) := by decide +kernel
theorem d_X_takeMade_11 : decode b_X_takeMade 11 = .ok (.getfield 34, 3) := by decide +kernel
theorem d_X_takeMade_14 : decode b_X_takeMade 14 = .ok (.getfield 127, 3) := by decide +kernel
theorem d_X_takeMade_17 : decode b_X_takeMade 17 = .ok (.invokevirtual 208, 3) := by decide +kernel
theorem d_X_takeMade_20 : decode b_X_takeMade 20 = .ok (.ifCond .eq 13, 3) := by decide +kernel
theorem d_X_takeMade_23 : decode b_X_takeMade 23 = .ok (.new 211, 3) := by decide +kernel
theorem d_X_takeMade_26 : decode b_X_takeMade 26 = .ok (.dup, 1) := by decide +kernel
theorem d_X_takeMade_27 : decode b_X_takeMade 27 = .ok (.ldc 213, 2) := by decide +kernel
theorem d_X_takeMade_29 : decode b_X_takeMade 29 = .ok (.invokespecial 215, 3) := by decide +kernel
theorem d_X_takeMade_32 : decode b_X_takeMade 32 = .ok (.athrow, 1) := by decide +kernel
theorem d_X_takeMade_33 : decode b_X_takeMade 33 = .ok (.aload_n 0, 1) := by decide +kernel
theorem d_X_takeMade_34 : decode b_X_takeMade 34 = .ok (.getfield 27, 3) := by decide +kernel
theorem d_X_takeMade_37 : decode b_X_takeMade 37 = .ok (.iload_n 1, 1) := by decide +kernel
theorem d_X_takeMade_38 : decode b_X_takeMade 38 = .ok (.aaload, 1) := by decide +kernel
theorem d_X_takeMade_39 : decode b_X_takeMade 39 = .ok (.aload_n 0, 1) := by decide +kernel
theorem d_X_takeMade_40 : decode b_X_takeMade 40 = .ok (.getfield 34, 3) := by decide +kernel
theorem d_X_takeMade_43 : decode b_X_takeMade 43 = .ok (.invokevirtual 71, 3) := by decide +kernel
theorem d_X_takeMade_46 : decode b_X_takeMade 46 = .ok (.aload_n 0, 1) := by decide +kernel
theorem d_X_takeMade_47 : decode b_X_takeMade 47 = .ok (.getfield 34, 3) := by decide +kernel
theorem d_X_takeMade_50 : decode b_X_takeMade 50 = .ok (.getfield 123, 3) := by decide +kernel
theorem d_X_takeMade_53 : decode b_X_takeMade 53 = .ok (.ifCond .eq 7, 3) := by decide +kernel
theorem d_X_takeMade_56 : decode b_X_takeMade 56 = .ok (.iconst 0, 1) := by decide +kernel
theorem d_X_takeMade_57 : decode b_X_takeMade 57 = .ok (.goto 4, 3) := by decide +kernel
theorem d_X_takeMade_60 : decode b_X_takeMade 60 = .ok (.iconst 1, 1) := by decide +kernel
theorem d_X_takeMade_61 : decode b_X_takeMade 61 = .ok (.ireturn, 1) := by decide +kernel
theorem d_X_countEmpty_0 : decode b_X_countEmpty 0 = .ok (.iconst 0, 1) := by decide +kernel
theorem d_X_countEmpty_1 : decode b_X_countEmpty 1 = .ok (.istore_n 1, 1) := by decide +kernel
theorem d_X_countEmpty_2 : decode b_X_countEmpty 2 = .ok (.iconst 0, 1) := by decide +kernel
theorem d_X_countEmpty_3 : decode b_X_countEmpty 3 = .ok (.istore_n 2, 1) := by decide +kernel
theorem d_X_countEmpty_4 : decode b_X_countEmpty 4 = .ok (.iload_n 2, 1) := by decide +kernel
theorem d_X_countEmpty_5 : decode b_X_countEmpty 5 = .ok (.bipush 8, 2) := by decide +kernel
theorem d_X_countEmpty_7 : decode b_X_countEmpty 7 = .ok (.if_icmp .ge 29, 3) := by decide +kernel
theorem d_X_countEmpty_10 : decode b_X_countEmpty 10 = .ok (.iload_n 1, 1) := by decide +kernel
theorem d_X_countEmpty_11 : decode b_X_countEmpty 11 = .ok (.aload_n 0, 1) := by decide +kernel
theorem d_X_countEmpty_12 : decode b_X_countEmpty 12 = .ok (.getfield 27, 3) := by decide +kernel
theorem d_X_countEmpty_15 : decode b_X_countEmpty 15 = .ok (.iload_n 2, 1) := by decide +kernel
theorem d_X_countEmpty_16 : decode b_X_countEmpty 16 = .ok (.aaload, 1) := by decide +kernel
theorem d_X_countEmpty_17 : decode b_X_countEmpty 17 = .ok (.getfield 123, 3) := by decide +kernel
theorem d_X_countEmpty_20 : decode b_X_countEmpty 20 = .ok (.ifCond .eq 7, 3) := by decide +kernel
theorem d_X_countEmpty_23 : decode b_X_countEmpty 23 = .ok (.iconst 1, 1) := by decide +kernel
theorem d_X_countEmpty_24 : decode b_X_countEmpty 24 = .ok (.goto 4, 3) := by decide +kernel
theorem d_X_countEmpty_27 : decode b_X_countEmpty 27 = .ok (.iconst 0, 1) := by decide +kernel
theorem d_X_countEmpty_28 : decode b_X_countEmpty 28 = .ok (.iadd, 1) := by decide +kernel
theorem d_X_countEmpty_29 : decode b_X_countEmpty 29 = .ok (.istore_n 1, 1) := by decide +kernel
theorem d_X_countEmpty_30 : decode b_X_countEmpty 30 = .ok (.iinc 2 1, 3) := by decide +kernel
theorem d_X_countEmpty_33 : decode b_X_countEmpty 33 = .ok (.goto (-29), 3) := by decide +kernel
theorem d_X_countEmpty_36 : decode b_X_countEmpty 36 = .ok (.iload_n 1, 1) := by decide +kernel
theorem d_X_countEmpty_37 : decode b_X_countEmpty 37 = .ok (.ireturn, 1) := by decide +kernel
theorem d_X_numberAt_0 : decode b_X_numberAt 0 = .ok (.aload_n 0, 1) := by decide +kernel
theorem d_X_numberAt_1 : decode b_X_numberAt 1 = .ok (.getfield 48, 3) := by decide +kernel
theorem d_X_numberAt_4 : decode b_X_numberAt 4 = .ok (.iload_n 1, 1) := by decide +kernel
theorem d_X_numberAt_5 : decode b_X_numberAt 5 = .ok (.iconst 2, 1) := by decide +kernel
theorem d_X_numberAt_6 : decode b_X_numberAt 6 = .ok (.idiv, 1) := by decide +kernel
theorem d_X_numberAt_7 : decode b_X_numberAt 7 = .ok (.laload, 1) := by decide +kernel
theorem d_X_numberAt_8 : decode b_X_numberAt 8 = .ok (.lstore_n 2, 1) := by decide +kernel
theorem d_X_numberAt_9 : decode b_X_numberAt 9 = .ok (.iload_n 1, 1) := by decide +kernel
theorem d_X_numberAt_10 : decode b_X_numberAt 10 = .ok (.iconst 2, 1) := by decide +kernel
theorem d_X_numberAt_11 : decode b_X_numberAt 11 = .ok (.irem, 1) := by decide +kernel
theorem d_X_numberAt_12 : decode b_X_numberAt 12 = .ok (.ifCond .ne 7, 3) := by decide +kernel
theorem d_X_numberAt_15 : decode b_X_numberAt 15 = .ok (.lload_n 2, 1) := by decide +kernel
theorem d_X_numberAt_16 : decode b_X_numberAt 16 = .ok (.goto 5, 3) := by decide +kernel
theorem d_X_numberAt_19 : decode b_X_numberAt 19 = .ok (.lload_n 2, 1) := by decide +kernel
theorem d_X_numberAt_20 : decode b_X_numberAt 20 = .ok (.lneg, 1) := by decide +kernel
theorem d_X_numberAt_21 : decode b_X_numberAt 21 = .ok (.lreturn, 1) := by decide +kernel
theorem d_X_sampleNumber_0 : decode b_X_sampleNumber 0 = .ok (.aload_n 0, 1) := by decide +kernel
theorem d_X_sampleNumber_1 : decode b_X_sampleNumber 1 = .ok (.aload_n 1, 1) := by decide +kernel
theorem d_X_sampleNumber_2 : decode b_X_sampleNumber 2 = .ok (.iload_n 2, 1) := by decide +kernel
theorem d_X_sampleNumber_3 : decode b_X_sampleNumber 3 = .ok (.ineg, 1) := by decide +kernel
theorem d_X_sampleNumber_4 : decode b_X_sampleNumber 4 = .ok (.invokestatic 177, 3) := by decide +kernel
theorem d_X_sampleNumber_7 : decode b_X_sampleNumber 7 = .ok (.invokevirtual 216, 3) := by decide +kernel
theorem d_X_sampleNumber_10 : decode b_X_sampleNumber 10 = .ok (.lstore_n 3, 1) := by decide +kernel
theorem d_X_sampleNumber_11 : decode b_X_sampleNumber 11 = .ok (.lload_n 3, 1) := by decide +kernel
theorem d_X_sampleNumber_12 : decode b_X_sampleNumber 12 = .ok (.ldc2_w 87, 3) := by decide +kernel
theorem d_X_sampleNumber_15 : decode b_X_sampleNumber 15 = .ok (.lcmp, 1) := by decide +kernel
theorem d_X_sampleNumber_16 : decode b_X_sampleNumber 16 = .ok (.ifCond .eq 6, 3) := by decide +kernel
theorem d_X_sampleNumber_19 : decode b_X_sampleNumber 19 = .ok (.lload_n 3, 1) := by decide +kernel
theorem d_X_sampleNumber_20 : decode b_X_sampleNumber 20 = .ok (.lneg, 1) := by decide +kernel
theorem d_X_sampleNumber_21 : decode b_X_sampleNumber 21 = .ok (.lreturn, 1) := by decide +kernel
theorem d_X_sampleNumber_22 : decode b_X_sampleNumber 22 = .ok (.aload_n 0, 1) := by decide +kernel
theorem d_X_sampleNumber_23 : decode b_X_sampleNumber 23 = .ok (.aload_n 1, 1) := by decide +kernel
theorem d_X_sampleNumber_24 : decode b_X_sampleNumber 24 = .ok (.iload_n 2, 1) := by decide +kernel
theorem d_X_sampleNumber_25 : decode b_X_sampleNumber 25 = .ok (.invokestatic 177, 3) := by decide +kernel
theorem d_X_sampleNumber_28 : decode b_X_sampleNumber 28 = .ok (.invokevirtual 216, 3) := by decide +kernel
theorem d_X_sampleNumber_31 : decode b_X_sampleNumber 31 = .ok (.lstore 5, 2) := by decide +kernel
theorem d_X_sampleNumber_33 : decode b_X_sampleNumber 33 = .ok (.lload 5, 2) := by decide +kernel
theorem d_X_sampleNumber_35 : decode b_X_sampleNumber 35 = .ok (.ldc2_w 87, 3) := by decide +kernel
theorem d_X_sampleNumber_38 : decode b_X_sampleNumber 38 = .ok (.lcmp, 1) := by decide +kernel
theorem d_X_sampleNumber_39 : decode b_X_sampleNumber 39 = .ok (.ifCond .eq 8, 3) := by decide +kernel
theorem d_X_sampleNumber_42 : decode b_X_sampleNumber 42 = .ok (.lload 5, 2) := by decide +kernel
theorem d_X_sampleNumber_44 : decode b_X_sampleNumber 44 = .ok (.goto 4, 3) := by decide +kernel
theorem d_X_sampleNumber_47 : decode b_X_sampleNumber 47 = .ok (.lconst 0, 1) := by decide +kernel
theorem d_X_sampleNumber_48 : decode b_X_sampleNumber 48 = .ok (.lreturn, 1) := by decide +kernel
theorem d_X_greatestBeside_0 : decode b_X_greatestBeside 0 = .ok (.aload_n 1, 1) := by decide +kernel
theorem d_X_greatestBeside_1 : decode b_X_greatestBeside 1 = .ok (.iload_n 2, 1) := by decide +kernel
theorem d_X_greatestBeside_2 : decode b_X_greatestBeside 2 = .ok (.invokevirtual 219, 3) := by decide +kernel
theorem d_X_greatestBeside_5 : decode b_X_greatestBeside 5 = .ok (.lstore_n 3, 1) := by decide +kernel
theorem d_X_greatestBeside_6 : decode b_X_greatestBeside 6 = .ok (.iload_n 2, 1) := by decide +kernel
theorem d_X_greatestBeside_7 : decode b_X_greatestBeside 7 = .ok (.iload_n 2, 1) := by decide +kernel
theorem d_X_greatestBeside_8 : decode b_X_greatestBeside 8 = .ok (.iconst 2, 1) := by decide +kernel
theorem d_X_greatestBeside_9 : decode b_X_greatestBeside 9 = .ok (.irem, 1) := by decide +kernel
theorem d_X_greatestBeside_10 : decode b_X_greatestBeside 10 = .ok (.isub, 1) := by decide +kernel
theorem d_X_greatestBeside_11 : decode b_X_greatestBeside 11 = .ok (.istore 5, 2) := by decide +kernel
theorem d_X_greatestBeside_13 : decode b_X_greatestBeside 13 = .ok (.iconst 0, 1) := by decide +kernel
theorem d_X_greatestBeside_14 : decode b_X_greatestBeside 14 = .ok (.istore 6, 2) := by decide +kernel
theorem d_X_greatestBeside_16 : decode b_X_greatestBeside 16 = .ok (.iload 6, 2) := by decide +kernel
theorem d_X_greatestBeside_18 : decode b_X_greatestBeside 18 = .ok (.iload 5, 2) := by decide +kernel
theorem d_X_greatestBeside_20 : decode b_X_greatestBeside 20 = .ok (.if_icmp .ge 31, 3) := by decide +kernel
theorem d_X_greatestBeside_23 : decode b_X_greatestBeside 23 = .ok (.lload_n 3, 1) := by decide +kernel
theorem d_X_greatestBeside_24 : decode b_X_greatestBeside 24 = .ok (.aload_n 1, 1) := by decide +kernel
theorem d_X_greatestBeside_25 : decode b_X_greatestBeside 25 = .ok (.iload_n 2, 1) := by decide +kernel
theorem d_X_greatestBeside_26 : decode b_X_greatestBeside 26 = .ok (.iload 6, 2) := by decide +kernel
theorem d_X_greatestBeside_28 : decode b_X_greatestBeside 28 = .ok (.invokevirtual 138, 3) := by decide +kernel
theorem d_X_greatestBeside_31 : decode b_X_greatestBeside 31 = .ok (.aload_n 0, 1) := by decide +kernel
theorem d_X_greatestBeside_32 : decode b_X_greatestBeside 32 = .ok (.iload 6, 2) := by decide +kernel
theorem d_X_greatestBeside_34 : decode b_X_greatestBeside 34 = .ok (.invokevirtual 134, 3) := by decide +kernel
theorem d_X_greatestBeside_37 : decode b_X_greatestBeside 37 = .ok (.lneg, 1) := by decide +kernel
theorem d_X_greatestBeside_38 : decode b_X_greatestBeside 38 = .ok (.invokestatic 222, 3) := by decide +kernel
theorem d_X_greatestBeside_41 : decode b_X_greatestBeside 41 = .ok (.invokestatic 226, 3) := by decide +kernel
theorem d_X_greatestBeside_44 : decode b_X_greatestBeside 44 = .ok (.lstore_n 3, 1) := by decide +kernel
theorem d_X_greatestBeside_45 : decode b_X_greatestBeside 45 = .ok (.iinc 6 1, 3) := by decide +kernel
theorem d_X_greatestBeside_48 : decode b_X_greatestBeside 48 = .ok (.goto (-32), 3) := by decide +kernel
theorem d_X_greatestBeside_51 : decode b_X_greatestBeside 51 = .ok (.lload_n 3, 1) := by decide +kernel
theorem d_X_greatestBeside_52 : decode b_X_greatestBeside 52 = .ok (.lreturn, 1) := by decide +kernel
theorem d_X_leaveOutPairs_0 : decode b_X_leaveOutPairs 0 = .ok (.aload_n 0, 1) := by decide +kernel
theorem d_X_leaveOutPairs_1 : decode b_X_leaveOutPairs 1 = .ok (.getfield 22, 3) := by decide +kernel
theorem d_X_leaveOutPairs_4 : decode b_X_leaveOutPairs 4 = .ok (.iconst 1, 1) := by decide +kernel
theorem d_X_leaveOutPairs_5 : decode b_X_leaveOutPairs 5 = .ok (.isub, 1) := by decide +kernel
theorem d_X_leaveOutPairs_6 : decode b_X_leaveOutPairs 6 = .ok (.istore_n 1, 1) := by decide +kernel
theorem d_X_leaveOutPairs_7 : decode b_X_leaveOutPairs 7 = .ok (.iload_n 1, 1) := by decide +kernel
theorem d_X_leaveOutPairs_8 : decode b_X_leaveOutPairs 8 = .ok (.ifCond .lt 36, 3) := by decide +kernel
theorem d_X_leaveOutPairs_11 : decode b_X_leaveOutPairs 11 = .ok (.aload_n 0, 1) := by decide +kernel
theorem d_X_leaveOutPairs_12 : decode b_X_leaveOutPairs 12 = .ok (.getfield 22, 3) := by decide +kernel
theorem d_X_leaveOutPairs_15 : decode b_X_leaveOutPairs 15 = .ok (.iconst 1, 1) := by decide +kernel
theorem d_X_leaveOutPairs_16 : decode b_X_leaveOutPairs 16 = .ok (.isub, 1) := by decide +kernel
theorem d_X_leaveOutPairs_17 : decode b_X_leaveOutPairs 17 = .ok (.istore_n 2, 1) := by decide +kernel
theorem d_X_leaveOutPairs_18 : decode b_X_leaveOutPairs 18 = .ok (.iload_n 2, 1) := by decide +kernel
theorem d_X_leaveOutPairs_19 : decode b_X_leaveOutPairs 19 = .ok (.iload_n 1, 1) := by decide +kernel
theorem d_X_leaveOutPairs_20 : decode b_X_leaveOutPairs 20 = .ok (.invokestatic 228, 3) := by decide +kernel
theorem d_X_leaveOutPairs_23 : decode b_X_leaveOutPairs 23 = .ok (.if_icmp .lt 15, 3) := by decide +kernel
theorem d_X_leaveOutPairs_26 : decode b_X_leaveOutPairs 26 = .ok (.aload_n 0, 1) := by decide +kernel
theorem d_X_leaveOutPairs_27 : decode b_X_leaveOutPairs 27 = .ok (.iload_n 1, 1) := by decide +kernel
theorem d_X_leaveOutPairs_28 : decode b_X_leaveOutPairs 28 = .ok (.iload_n 2, 1) := by decide +kernel
theorem d_X_leaveOutPairs_29 : decode b_X_leaveOutPairs 29 = .ok (.invokevirtual 231, 3) := by decide +kernel
theorem d_X_leaveOutPairs_32 : decode b_X_leaveOutPairs 32 = .ok (.iinc 2 (-1), 3) := by decide +kernel
theorem d_X_leaveOutPairs_35 : decode b_X_leaveOutPairs 35 = .ok (.goto (-17), 3) := by decide +kernel
theorem d_X_leaveOutPairs_38 : decode b_X_leaveOutPairs 38 = .ok (.iinc 1 (-1), 3) := by decide +kernel
theorem d_X_leaveOutPairs_41 : decode b_X_leaveOutPairs 41 = .ok (.goto (-34), 3) := by decide +kernel
theorem d_X_leaveOutPairs_44 : decode b_X_leaveOutPairs 44 = .ok (.return_, 1) := by decide +kernel
theorem d_X_leaveOutSingles_0 : decode b_X_leaveOutSingles 0 = .ok (.aload_n 0, 1) := by decide +kernel
theorem d_X_leaveOutSingles_1 : decode b_X_leaveOutSingles 1 = .ok (.getfield 22, 3) := by decide +kernel
theorem d_X_leaveOutSingles_4 : decode b_X_leaveOutSingles 4 = .ok (.iconst 1, 1) := by decide +kernel
theorem d_X_leaveOutSingles_5 : decode b_X_leaveOutSingles 5 = .ok (.isub, 1) := by decide +kernel
theorem d_X_leaveOutSingles_6 : decode b_X_leaveOutSingles 6 = .ok (.istore_n 1, 1) := by decide +kernel
theorem d_X_leaveOutSingles_7 : decode b_X_leaveOutSingles 7 = .ok (.iload_n 1, 1) := by decide +kernel
theorem d_X_leaveOutSingles_8 : decode b_X_leaveOutSingles 8 = .ok (.ifCond .lt 15, 3) := by decide +kernel
theorem d_X_leaveOutSingles_11 : decode b_X_leaveOutSingles 11 = .ok (.aload_n 0, 1) := by decide +kernel
theorem d_X_leaveOutSingles_12 : decode b_X_leaveOutSingles 12 = .ok (.iload_n 1, 1) := by decide +kernel
theorem d_X_leaveOutSingles_13 : decode b_X_leaveOutSingles 13 = .ok (.iload_n 1, 1) := by decide +kernel
theorem d_X_leaveOutSingles_14 : decode b_X_leaveOutSingles 14 = .ok (.invokevirtual 231, 3) := by decide +kernel
theorem d_X_leaveOutSingles_17 : decode b_X_leaveOutSingles 17 = .ok (.iinc 1 (-1), 3) := by decide +kernel
theorem d_X_leaveOutSingles_20 : decode b_X_leaveOutSingles 20 = .ok (.goto (-13), 3) := by decide +kernel
theorem d_X_leaveOutSingles_23 : decode b_X_leaveOutSingles 23 = .ok (.return_, 1) := by decide +kernel
theorem d_X_leaveOutUnlessNeeded_0 : decode b_X_leaveOutUnlessNeeded 0 = .ok (.aload_n 0, 1) := by decide +kernel
theorem d_X_leaveOutUnlessNeeded_1 : decode b_X_leaveOutUnlessNeeded 1 = .ok (.getfield 41, 3) := by decide +kernel
theorem d_X_leaveOutUnlessNeeded_4 : decode b_X_leaveOutUnlessNeeded 4 = .ok (.iload_n 1, 1) := by decide +kernel
theorem d_X_leaveOutUnlessNeeded_5 : decode b_X_leaveOutUnlessNeeded 5 = .ok (.iload_n 2, 1) := by decide +kernel
theorem d_X_leaveOutUnlessNeeded_6 : decode b_X_leaveOutUnlessNeeded 6 = .ok (.invokevirtual 138, 3) := by decide +kernel
theorem d_X_leaveOutUnlessNeeded_9 : decode b_X_leaveOutUnlessNeeded 9 = .ok (.lstore_n 3, 1) := by decide +kernel
theorem d_X_leaveOutUnlessNeeded_10 : decode b_X_leaveOutUnlessNeeded 10 = .ok (.lload_n 3, 1) := by decide +kernel
theorem d_X_leaveOutUnlessNeeded_11 : decode b_X_leaveOutUnlessNeeded 11 = .ok (.ldc2_w 87, 3) := by decide +kernel
theorem d_X_leaveOutUnlessNeeded_14 : decode b_X_leaveOutUnlessNeeded 14 = .ok (.lcmp, 1) := by decide +kernel
theorem d_X_leaveOutUnlessNeeded_15 : decode b_X_leaveOutUnlessNeeded 15 = .ok (.ifCond .ne 4, 3) := by decide +kernel
theorem d_X_leaveOutUnlessNeeded_18 : decode b_X_leaveOutUnlessNeeded 18 = .ok (.return_, 1) := by decide +kernel
theorem d_X_leaveOutUnlessNeeded_19 : decode b_X_leaveOutUnlessNeeded 19 = .ok (.aload_n 0, 1) := by decide +kernel
theorem d_X_leaveOutUnlessNeeded_20 : decode b_X_leaveOutUnlessNeeded 20 = .ok (.getfield 41, 3) := by decide +kernel
theorem d_X_leaveOutUnlessNeeded_23 : decode b_X_leaveOutUnlessNeeded 23 = .ok (.iload_n 1, 1) := by decide +kernel
theorem d_X_leaveOutUnlessNeeded_24 : decode b_X_leaveOutUnlessNeeded 24 = .ok (.iload_n 2, 1) := by decide +kernel
theorem d_X_leaveOutUnlessNeeded_25 : decode b_X_leaveOutUnlessNeeded 25 = .ok (.ldc2_w 87, 3) := by decide +kernel
theorem d_X_leaveOutUnlessNeeded_28 : decode b_X_leaveOutUnlessNeeded 28 = .ok (.invokevirtual 235, 3) := by decide +kernel
theorem d_X_leaveOutUnlessNeeded_31 : decode b_X_leaveOutUnlessNeeded 31 = .ok (.aload_n 0, 1) := by decide +kernel
theorem d_X_leaveOutUnlessNeeded_32 : decode b_X_leaveOutUnlessNeeded 32 = .ok (.getfield 45, 3) := by decide +kernel
theorem d_X_leaveOutUnlessNeeded_35 : decode b_X_leaveOutUnlessNeeded 35 = .ok (.aload_n 0, 1) := by decide +kernel
theorem d_X_leaveOutUnlessNeeded_36 : decode b_X_leaveOutUnlessNeeded 36 = .ok (.getfield 41, 3) := by decide +kernel
theorem d_X_leaveOutUnlessNeeded_39 : decode b_X_leaveOutUnlessNeeded 39 = .ok (.invokevirtual 150, 3) := by decide +kernel
theorem d_X_leaveOutUnlessNeeded_42 : decode b_X_leaveOutUnlessNeeded 42 = .ok (.aload_n 0, 1) := by decide +kernel
theorem d_X_leaveOutUnlessNeeded_43 : decode b_X_leaveOutUnlessNeeded 43 = .ok (.getfield 45, 3) := by decide +kernel
theorem d_X_leaveOutUnlessNeeded_46 : decode b_X_leaveOutUnlessNeeded 46 = .ok (.invokevirtual 183, 3) := by decide +kernel
theorem d_X_leaveOutUnlessNeeded_49 : decode b_X_leaveOutUnlessNeeded 49 = .ok (.ifCond .eq 27, 3) := by decide +kernel
theorem d_X_leaveOutUnlessNeeded_52 : decode b_X_leaveOutUnlessNeeded 52 = .ok (.aload_n 0, 1) := by decide +kernel
theorem d_X_leaveOutUnlessNeeded_53 : decode b_X_leaveOutUnlessNeeded 53 = .ok (.getfield 45, 3) := by decide +kernel
theorem d_X_leaveOutUnlessNeeded_56 : decode b_X_leaveOutUnlessNeeded 56 = .ok (.iload_n 1, 1) := by decide +kernel
theorem d_X_leaveOutUnlessNeeded_57 : decode b_X_leaveOutUnlessNeeded 57 = .ok (.iload_n 2, 1) := by decide +kernel
theorem d_X_leaveOutUnlessNeeded_58 : decode b_X_leaveOutUnlessNeeded 58 = .ok (.invokevirtual 138, 3) := by decide +kernel
theorem d_X_leaveOutUnlessNeeded_61 : decode b_X_leaveOutUnlessNeeded 61 = .ok (.lload_n 3, 1) := by decide +kernel
theorem d_X_leaveOutUnlessNeeded_62 : decode b_X_leaveOutUnlessNeeded 62 = .ok (.lcmp, 1) := by decide +kernel
theorem d_X_leaveOutUnlessNeeded_63 : decode b_X_leaveOutUnlessNeeded 63 = .ok (.ifCond .le 13, 3) := by decide +kernel
theorem d_X_leaveOutUnlessNeeded_66 : decode b_X_leaveOutUnlessNeeded 66 = .ok (.aload_n 0, 1) := by decide +kernel
theorem d_X_leaveOutUnlessNeeded_67 : decode b_X_leaveOutUnlessNeeded 67 = .ok (.getfield 41, 3) := by decide +kernel
theorem d_X_leaveOutUnlessNeeded_70 : decode b_X_leaveOutUnlessNeeded 70 = .ok (.iload_n 1, 1) := by decide +kernel
theorem d_X_leaveOutUnlessNeeded_71 : decode b_X_leaveOutUnlessNeeded 71 = .ok (.iload_n 2, 1) := by decide +kernel
theorem d_X_leaveOutUnlessNeeded_72 : decode b_X_leaveOutUnlessNeeded 72 = .ok (.lload_n 3, 1) := by decide +kernel
theorem d_X_leaveOutUnlessNeeded_73 : decode b_X_leaveOutUnlessNeeded 73 = .ok (.invokevirtual 235, 3) := by decide +kernel
theorem d_X_leaveOutUnlessNeeded_76 : decode b_X_leaveOutUnlessNeeded 76 = .ok (.return_, 1) := by decide +kernel
theorem d_X_tellLeftRows_0 : decode b_X_tellLeftRows 0 = .ok (.iconst 0, 1) := by decide +kernel
theorem d_X_tellLeftRows_1 : decode b_X_tellLeftRows 1 = .ok (.istore_n 1, 1) := by decide +kernel
theorem d_X_tellLeftRows_2 : decode b_X_tellLeftRows 2 = .ok (.iload_n 1, 1) := by decide +kernel
theorem d_X_tellLeftRows_3 : decode b_X_tellLeftRows 3 = .ok (.aload_n 0, 1) := by decide +kernel
theorem d_X_tellLeftRows_4 : decode b_X_tellLeftRows 4 = .ok (.getfield 22, 3) := by decide +kernel
theorem d_X_tellLeftRows_7 : decode b_X_tellLeftRows 7 = .ok (.if_icmp .ge 42, 3) := by decide +kernel
theorem d_X_tellLeftRows_10 : decode b_X_tellLeftRows 10 = .ok (.aload_n 0, 1) := by decide +kernel
theorem d_X_tellLeftRows_11 : decode b_X_tellLeftRows 11 = .ok (.getfield 41, 3) := by decide +kernel
theorem d_X_tellLeftRows_14 : decode b_X_tellLeftRows 14 = .ok (.iload_n 1, 1) := by decide +kernel
theorem d_X_tellLeftRows_15 : decode b_X_tellLeftRows 15 = .ok (.iload_n 1, 1) := by decide +kernel
theorem d_X_tellLeftRows_16 : decode b_X_tellLeftRows 16 = .ok (.invokevirtual 138, 3) := by decide +kernel
theorem d_X_tellLeftRows_19 : decode b_X_tellLeftRows 19 = .ok (.ldc2_w 87, 3) := by decide +kernel
theorem d_X_tellLeftRows_22 : decode b_X_tellLeftRows 22 = .ok (.lcmp, 1) := by decide +kernel
theorem d_X_tellLeftRows_23 : decode b_X_tellLeftRows 23 = .ok (.ifCond .eq 20, 3) := by decide +kernel
theorem d_X_tellLeftRows_26 : decode b_X_tellLeftRows 26 = .ok (.aload_n 0, 1) := by decide +kernel
theorem d_X_tellLeftRows_27 : decode b_X_tellLeftRows 27 = .ok (.iload_n 1, 1) := by decide +kernel
theorem d_X_tellLeftRows_28 : decode b_X_tellLeftRows 28 = .ok (.invokestatic 238, 3) := by decide +kernel
theorem d_X_tellLeftRows_31 : decode b_X_tellLeftRows 31 = .ok (.iconst 0, 1) := by decide +kernel
theorem d_X_tellLeftRows_32 : decode b_X_tellLeftRows 32 = .ok (.aload_n 0, 1) := by decide +kernel
theorem d_X_tellLeftRows_33 : decode b_X_tellLeftRows 33 = .ok (.getfield 41, 3) := by decide +kernel
theorem d_X_tellLeftRows_36 : decode b_X_tellLeftRows 36 = .ok (.iload_n 1, 1) := by decide +kernel
theorem d_X_tellLeftRows_37 : decode b_X_tellLeftRows 37 = .ok (.invokevirtual 219, 3) := by decide +kernel
theorem d_X_tellLeftRows_40 : decode b_X_tellLeftRows 40 = .ok (.invokevirtual 147, 3) := by decide +kernel
theorem d_X_tellLeftRows_43 : decode b_X_tellLeftRows 43 = .ok (.iinc 1 1, 3) := by decide +kernel
theorem d_X_tellLeftRows_46 : decode b_X_tellLeftRows 46 = .ok (.goto (-44), 3) := by decide +kernel
theorem d_X_tellLeftRows_49 : decode b_X_tellLeftRows 49 = .ok (.iconst 0, 1) := by decide +kernel
theorem d_X_tellLeftRows_50 : decode b_X_tellLeftRows 50 = .ok (.istore_n 1, 1) := by decide +kernel
theorem d_X_tellLeftRows_51 : decode b_X_tellLeftRows 51 = .ok (.iload_n 1, 1) := by decide +kernel
theorem d_X_tellLeftRows_52 : decode b_X_tellLeftRows 52 = .ok (.aload_n 0, 1) := by decide +kernel
theorem d_X_tellLeftRows_53 : decode b_X_tellLeftRows 53 = .ok (.getfield 22, 3) := by decide +kernel
theorem d_X_tellLeftRows_56 : decode b_X_tellLeftRows 56 = .ok (.if_icmp .ge 65, 3) := by decide +kernel
theorem d_X_tellLeftRows_59 : decode b_X_tellLeftRows 59 = .ok (.iload_n 1, 1) := by decide +kernel
theorem d_X_tellLeftRows_60 : decode b_X_tellLeftRows 60 = .ok (.invokestatic 228, 3) := by decide +kernel
theorem d_X_tellLeftRows_63 : decode b_X_tellLeftRows 63 = .ok (.istore_n 2, 1) := by decide +kernel
theorem d_X_tellLeftRows_64 : decode b_X_tellLeftRows 64 = .ok (.iload_n 2, 1) := by decide +kernel
theorem d_X_tellLeftRows_65 : decode b_X_tellLeftRows 65 = .ok (.aload_n 0, 1) := by decide +kernel
theorem d_X_tellLeftRows_66 : decode b_X_tellLeftRows 66 = .ok (.getfield 22, 3) := by decide +kernel
theorem d_X_tellLeftRows_69 : decode b_X_tellLeftRows 69 = .ok (.if_icmp .ge 46, 3) := by decide +kernel
theorem d_X_tellLeftRows_72 : decode b_X_tellLeftRows 72 = .ok (.aload_n 0, 1) := by decide +kernel
theorem d_X_tellLeftRows_73 : decode b_X_tellLeftRows 73 = .ok (.getfield 41, 3) := by decide +kernel
theorem d_X_tellLeftRows_76 : decode b_X_tellLeftRows 76 = .ok (.iload_n 1, 1) := by decide +kernel
theorem d_X_tellLeftRows_77 : decode b_X_tellLeftRows 77 = .ok (.iload_n 2, 1) := by decide +kernel
theorem d_X_tellLeftRows_78 : decode b_X_tellLeftRows 78 = .ok (.invokevirtual 138, 3) := by decide +kernel
theorem d_X_tellLeftRows_81 : decode b_X_tellLeftRows 81 = .ok (.ldc2_w 87, 3) := by decide +kernel
theorem d_X_tellLeftRows_84 : decode b_X_tellLeftRows 84 = .ok (.lcmp, 1) := by decide +kernel
theorem d_X_tellLeftRows_85 : decode b_X_tellLeftRows 85 = .ok (.ifCond .eq 24, 3) := by decide +kernel
theorem d_X_tellLeftRows_88 : decode b_X_tellLeftRows 88 = .ok (.aload_n 0, 1) := by decide +kernel
theorem d_X_tellLeftRows_89 : decode b_X_tellLeftRows 89 = .ok (.iload_n 1, 1) := by decide +kernel
theorem d_X_tellLeftRows_90 : decode b_X_tellLeftRows 90 = .ok (.invokestatic 238, 3) := by decide +kernel
theorem d_X_tellLeftRows_93 : decode b_X_tellLeftRows 93 = .ok (.iload_n 2, 1) := by decide +kernel
theorem d_X_tellLeftRows_94 : decode b_X_tellLeftRows 94 = .ok (.invokestatic 238, 3) := by decide +kernel
theorem d_X_tellLeftRows_97 : decode b_X_tellLeftRows 97 = .ok (.aload_n 0, 1) := by decide +kernel
theorem d_X_tellLeftRows_98 : decode b_X_tellLeftRows 98 = .ok (.getfield 41, 3) := by decide +kernel
theorem d_X_tellLeftRows_101 : decode b_X_tellLeftRows 101 = .ok (.iload_n 1, 1) := by decide +kernel
theorem d_X_tellLeftRows_102 : decode b_X_tellLeftRows 102 = .ok (.iload_n 2, 1) := by decide +kernel
theorem d_X_tellLeftRows_103 : decode b_X_tellLeftRows 103 = .ok (.invokevirtual 138, 3) := by decide +kernel
theorem d_X_tellLeftRows_106 : decode b_X_tellLeftRows 106 = .ok (.invokevirtual 147, 3) := by decide +kernel
theorem d_X_tellLeftRows_109 : decode b_X_tellLeftRows 109 = .ok (.iinc 2 1, 3) := by decide +kernel
theorem d_X_tellLeftRows_112 : decode b_X_tellLeftRows 112 = .ok (.goto (-48), 3) := by decide +kernel
theorem d_X_tellLeftRows_115 : decode b_X_tellLeftRows 115 = .ok (.iinc 1 1, 3) := by decide +kernel
theorem d_X_tellLeftRows_118 : decode b_X_tellLeftRows 118 = .ok (.goto (-67), 3) := by decide +kernel
theorem d_X_tellLeftRows_121 : decode b_X_tellLeftRows 121 = .ok (.return_, 1) := by decide +kernel
theorem d_X_tellRow_0 : decode b_X_tellRow 0 = .ok (.iconst 3, 1) := by decide +kernel
theorem d_X_tellRow_1 : decode b_X_tellRow 1 = .ok (.aload_n 0, 1) := by decide +kernel
theorem d_X_tellRow_2 : decode b_X_tellRow 2 = .ok (.getfield 55, 3) := by decide +kernel
theorem d_X_tellRow_5 : decode b_X_tellRow 5 = .ok (.imul, 1) := by decide +kernel
theorem d_X_tellRow_6 : decode b_X_tellRow 6 = .ok (.istore 5, 2) := by decide +kernel
theorem d_X_tellRow_8 : decode b_X_tellRow 8 = .ok (.aload_n 0, 1) := by decide +kernel
theorem d_X_tellRow_9 : decode b_X_tellRow 9 = .ok (.getfield 52, 3) := by decide +kernel
theorem d_X_tellRow_12 : decode b_X_tellRow 12 = .ok (.iload 5, 2) := by decide +kernel
theorem d_X_tellRow_14 : decode b_X_tellRow 14 = .ok (.iload_n 1, 1) := by decide +kernel
theorem d_X_tellRow_15 : decode b_X_tellRow 15 = .ok (.i2l, 1) := by decide +kernel
theorem d_X_tellRow_16 : decode b_X_tellRow 16 = .ok (.lastore, 1) := by decide +kernel
theorem d_X_tellRow_17 : decode b_X_tellRow 17 = .ok (.aload_n 0, 1) := by decide +kernel
theorem d_X_tellRow_18 : decode b_X_tellRow 18 = .ok (.getfield 52, 3) := by decide +kernel
theorem d_X_tellRow_21 : decode b_X_tellRow 21 = .ok (.iload 5, 2) := by decide +kernel
theorem d_X_tellRow_23 : decode b_X_tellRow 23 = .ok (.iconst 1, 1) := by decide +kernel
theorem d_X_tellRow_24 : decode b_X_tellRow 24 = .ok (.iadd, 1) := by decide +kernel
theorem d_X_tellRow_25 : decode b_X_tellRow 25 = .ok (.iload_n 2, 1) := by decide +kernel
theorem d_X_tellRow_26 : decode b_X_tellRow 26 = .ok (.i2l, 1) := by decide +kernel
theorem d_X_tellRow_27 : decode b_X_tellRow 27 = .ok (.lastore, 1) := by decide +kernel
theorem d_X_tellRow_28 : decode b_X_tellRow 28 = .ok (.aload_n 0, 1) := by decide +kernel
theorem d_X_tellRow_29 : decode b_X_tellRow 29 = .ok (.getfield 52, 3) := by decide +kernel
theorem d_X_tellRow_32 : decode b_X_tellRow 32 = .ok (.iload 5, 2) := by decide +kernel
theorem d_X_tellRow_34 : decode b_X_tellRow 34 = .ok (.iconst 2, 1) := by decide +kernel
theorem d_X_tellRow_35 : decode b_X_tellRow 35 = .ok (.iadd, 1) := by decide +kernel
theorem d_X_tellRow_36 : decode b_X_tellRow 36 = .ok (.lload_n 3, 1) := by decide +kernel
theorem d_X_tellRow_37 : decode b_X_tellRow 37 = .ok (.lastore, 1) := by decide +kernel
theorem d_X_tellRow_38 : decode b_X_tellRow 38 = .ok (.aload_n 0, 1) := by decide +kernel
theorem d_X_tellRow_39 : decode b_X_tellRow 39 = .ok (.dup, 1) := by decide +kernel
theorem d_X_tellRow_40 : decode b_X_tellRow 40 = .ok (.getfield 55, 3) := by decide +kernel
theorem d_X_tellRow_43 : decode b_X_tellRow 43 = .ok (.iconst 1, 1) := by decide +kernel
theorem d_X_tellRow_44 : decode b_X_tellRow 44 = .ok (.iadd, 1) := by decide +kernel
theorem d_X_tellRow_45 : decode b_X_tellRow 45 = .ok (.putfield 55, 3) := by decide +kernel
theorem d_X_tellRow_48 : decode b_X_tellRow 48 = .ok (.return_, 1) := by decide +kernel
end
section
theorem d_M_init_0 : decode b_M_init 0 = .ok (.aload_n 0, 1) := by decide +kernel
theorem d_M_init_1 : decode b_M_init 1 = .ok (.invokespecial 1, 3) := by decide +kernel
theorem d_M_init_4 : decode b_M_init 4 = .ok (.aload_n 0, 1) := by decide +kernel
theorem d_M_init_5 : decode b_M_init 5 = .ok (.sipush 800, 3) := by decide +kernel
theorem d_M_init_8 : decode b_M_init 8 = .ok (.newarray .long, 2) := by decide +kernel
theorem d_M_init_10 : decode b_M_init 10 = .ok (.putfield 7, 3) := by decide +kernel
theorem d_M_init_13 : decode b_M_init 13 = .ok (.aload_n 0, 1) := by decide +kernel
theorem d_M_init_14 : decode b_M_init 14 = .ok (.bipush 8, 2) := by decide +kernel
theorem d_M_init_16 : decode b_M_init 16 = .ok (.newarray .boolean, 2) := by decide +kernel
theorem d_M_init_18 : decode b_M_init 18 = .ok (.putfield 13, 3) := by decide +kernel
theorem d_M_init_21 : decode b_M_init 21 = .ok (.aload_n 0, 1) := by decide +kernel
theorem d_M_init_22 : decode b_M_init 22 = .ok (.bipush 100, 2) := by decide +kernel
theorem d_M_init_24 : decode b_M_init 24 = .ok (.newarray .long, 2) := by decide +kernel
theorem d_M_init_26 : decode b_M_init 26 = .ok (.putfield 17, 3) := by decide +kernel
theorem d_M_init_29 : decode b_M_init 29 = .ok (.aload_n 0, 1) := by decide +kernel
theorem d_M_init_30 : decode b_M_init 30 = .ok (.bipush 100, 2) := by decide +kernel
theorem d_M_init_32 : decode b_M_init 32 = .ok (.newarray .long, 2) := by decide +kernel
theorem d_M_init_34 : decode b_M_init 34 = .ok (.putfield 20, 3) := by decide +kernel
theorem d_M_init_37 : decode b_M_init 37 = .ok (.aload_n 0, 1) := by decide +kernel
theorem d_M_init_38 : decode b_M_init 38 = .ok (.bipush 100, 2) := by decide +kernel
theorem d_M_init_40 : decode b_M_init 40 = .ok (.newarray .long, 2) := by decide +kernel
theorem d_M_init_42 : decode b_M_init 42 = .ok (.putfield 23, 3) := by decide +kernel
theorem d_M_init_45 : decode b_M_init 45 = .ok (.aload_n 0, 1) := by decide +kernel
theorem d_M_init_46 : decode b_M_init 46 = .ok (.bipush 6, 2) := by decide +kernel
theorem d_M_init_48 : decode b_M_init 48 = .ok (.newarray .long, 2) := by decide +kernel
theorem d_M_init_50 : decode b_M_init 50 = .ok (.putfield 26, 3) := by decide +kernel
theorem d_M_init_53 : decode b_M_init 53 = .ok (.aload_n 0, 1) := by decide +kernel
theorem d_M_init_54 : decode b_M_init 54 = .ok (.bipush 60, 2) := by decide +kernel
theorem d_M_init_56 : decode b_M_init 56 = .ok (.newarray .int, 2) := by decide +kernel
theorem d_M_init_58 : decode b_M_init 58 = .ok (.putfield 29, 3) := by decide +kernel
theorem d_M_init_61 : decode b_M_init 61 = .ok (.aload_n 0, 1) := by decide +kernel
theorem d_M_init_62 : decode b_M_init 62 = .ok (.bipush 60, 2) := by decide +kernel
theorem d_M_init_64 : decode b_M_init 64 = .ok (.newarray .int, 2) := by decide +kernel
theorem d_M_init_66 : decode b_M_init 66 = .ok (.putfield 33, 3) := by decide +kernel
theorem d_M_init_69 : decode b_M_init 69 = .ok (.aload_n 0, 1) := by decide +kernel
theorem d_M_init_70 : decode b_M_init 70 = .ok (.bipush 60, 2) := by decide +kernel
theorem d_M_init_72 : decode b_M_init 72 = .ok (.newarray .long, 2) := by decide +kernel
theorem d_M_init_74 : decode b_M_init 74 = .ok (.putfield 36, 3) := by decide +kernel
theorem d_M_init_77 : decode b_M_init 77 = .ok (.aload_n 0, 1) := by decide +kernel
theorem d_M_init_78 : decode b_M_init 78 = .ok (.bipush 60, 2) := by decide +kernel
theorem d_M_init_80 : decode b_M_init 80 = .ok (.newarray .boolean, 2) := by decide +kernel
theorem d_M_init_82 : decode b_M_init 82 = .ok (.putfield 39, 3) := by decide +kernel
theorem d_M_init_85 : decode b_M_init 85 = .ok (.aload_n 0, 1) := by decide +kernel
theorem d_M_init_86 : decode b_M_init 86 = .ok (.iload_n 1, 1) := by decide +kernel
theorem d_M_init_87 : decode b_M_init 87 = .ok (.iconst 1, 1) := by decide +kernel
theorem d_M_init_88 : decode b_M_init 88 = .ok (.if_icmp .ge 7, 3) := by decide +kernel
theorem d_M_init_91 : decode b_M_init 91 = .ok (.iconst 1, 1) := by decide +kernel
theorem d_M_init_92 : decode b_M_init 92 = .ok (.goto 13, 3) := by decide +kernel
theorem d_M_init_95 : decode b_M_init 95 = .ok (.iload_n 1, 1) := by decide +kernel
theorem d_M_init_96 : decode b_M_init 96 = .ok (.iconst 5, 1) := by decide +kernel
theorem d_M_init_97 : decode b_M_init 97 = .ok (.if_icmp .le 7, 3) := by decide +kernel
theorem d_M_init_100 : decode b_M_init 100 = .ok (.iconst 5, 1) := by decide +kernel
theorem d_M_init_101 : decode b_M_init 101 = .ok (.goto 4, 3) := by decide +kernel
theorem d_M_init_104 : decode b_M_init 104 = .ok (.iload_n 1, 1) := by decide +kernel
theorem d_M_init_105 : decode b_M_init 105 = .ok (.putfield 42, 3) := by decide +kernel
theorem d_M_init_108 : decode b_M_init 108 = .ok (.iconst 0, 1) := by decide +kernel
theorem d_M_init_109 : decode b_M_init 109 = .ok (.istore_n 2, 1) := by decide +kernel
theorem d_M_init_110 : decode b_M_init 110 = .ok (.iload_n 2, 1) := by decide +kernel
theorem d_M_init_111 : decode b_M_init 111 = .ok (.sipush 800, 3) := by decide +kernel
theorem d_M_init_114 : decode b_M_init 114 = .ok (.if_icmp .ge 18, 3) := by decide +kernel
theorem d_M_init_117 : decode b_M_init 117 = .ok (.aload_n 0, 1) := by decide +kernel
theorem d_M_init_118 : decode b_M_init 118 = .ok (.getfield 7, 3) := by decide +kernel
theorem d_M_init_121 : decode b_M_init 121 = .ok (.iload_n 2, 1) := by decide +kernel
theorem d_M_init_122 : decode b_M_init 122 = .ok (.ldc2_w 46, 3) := by decide +kernel
theorem d_M_init_125 : decode b_M_init 125 = .ok (.lastore, 1) := by decide +kernel
theorem d_M_init_126 : decode b_M_init 126 = .ok (.iinc 2 1, 3) := by decide +kernel
theorem d_M_init_129 : decode b_M_init 129 = .ok (.goto (-19), 3) := by decide +kernel
theorem d_M_init_132 : decode b_M_init 132 = .ok (.return_, 1) := by decide +kernel
theorem d_M_thrown_0 : decode b_M_thrown 0 = .ok (.aload_n 0, 1) := by decide +kernel
theorem d_M_thrown_1 : decode b_M_thrown 1 = .ok (.getfield 48, 3) := by decide +kernel
theorem d_M_thrown_4 : decode b_M_thrown 4 = .ok (.ireturn, 1) := by decide +kernel
theorem d_M_isShape_0 : decode b_M_isShape 0 = .ok (.iload_n 1, 1) := by decide +kernel
theorem d_M_isShape_1 : decode b_M_isShape 1 = .ok (.ifCond .lt 13, 3) := by decide +kernel
theorem d_M_isShape_4 : decode b_M_isShape 4 = .ok (.iload_n 1, 1) := by decide +kernel
theorem d_M_isShape_5 : decode b_M_isShape 5 = .ok (.bipush 8, 2) := by decide +kernel
theorem d_M_isShape_7 : decode b_M_isShape 7 = .ok (.if_icmp .ge 7, 3) := by decide +kernel
theorem d_M_isShape_10 : decode b_M_isShape 10 = .ok (.iconst 1, 1) := by decide +kernel
theorem d_M_isShape_11 : decode b_M_isShape 11 = .ok (.goto 4, 3) := by decide +kernel
theorem d_M_isShape_14 : decode b_M_isShape 14 = .ok (.iconst 0, 1) := by decide +kernel
theorem d_M_isShape_15 : decode b_M_isShape 15 = .ok (.ireturn, 1) := by decide +kernel
theorem d_M_isName_0 : decode b_M_isName 0 = .ok (.iload_n 1, 1) := by decide +kernel
theorem d_M_isName_1 : decode b_M_isName 1 = .ok (.iconst 1, 1) := by decide +kernel
theorem d_M_isName_2 : decode b_M_isName 2 = .ok (.if_icmp .lt 15, 3) := by decide +kernel
theorem d_M_isName_5 : decode b_M_isName 5 = .ok (.iload_n 1, 1) := by decide +kernel
theorem d_M_isName_6 : decode b_M_isName 6 = .ok (.aload_n 0, 1) := by decide +kernel
theorem d_M_isName_7 : decode b_M_isName 7 = .ok (.getfield 42, 3) := by decide +kernel
theorem d_M_isName_10 : decode b_M_isName 10 = .ok (.if_icmp .gt 7, 3) := by decide +kernel
theorem d_M_isName_13 : decode b_M_isName 13 = .ok (.iconst 1, 1) := by decide +kernel
theorem d_M_isName_14 : decode b_M_isName 14 = .ok (.goto 4, 3) := by decide +kernel
theorem d_M_isName_17 : decode b_M_isName 17 = .ok (.iconst 0, 1) := by decide +kernel
theorem d_M_isName_18 : decode b_M_isName 18 = .ok (.ireturn, 1) := by decide +kernel
theorem d_M_isTerm_0 : decode b_M_isTerm 0 = .ok (.iload_n 1, 1) := by decide +kernel
theorem d_M_isTerm_1 : decode b_M_isTerm 1 = .ok (.aload_n 0, 1) := by decide +kernel
theorem d_M_isTerm_2 : decode b_M_isTerm 2 = .ok (.getfield 42, 3) := by decide +kernel
theorem d_M_isTerm_5 : decode b_M_isTerm 5 = .ok (.ineg, 1) := by decide +kernel
theorem d_M_isTerm_6 : decode b_M_isTerm 6 = .ok (.if_icmp .lt 15, 3) := by decide +kernel
theorem d_M_isTerm_9 : decode b_M_isTerm 9 = .ok (.iload_n 1, 1) := by decide +kernel
theorem d_M_isTerm_10 : decode b_M_isTerm 10 = .ok (.aload_n 0, 1) := by decide +kernel
theorem d_M_isTerm_11 : decode b_M_isTerm 11 = .ok (.getfield 42, 3) := by decide +kernel
theorem d_M_isTerm_14 : decode b_M_isTerm 14 = .ok (.if_icmp .gt 7, 3) := by decide +kernel
theorem d_M_isTerm_17 : decode b_M_isTerm 17 = .ok (.iconst 1, 1) := by decide +kernel
theorem d_M_isTerm_18 : decode b_M_isTerm 18 = .ok (.goto 4, 3) := by decide +kernel
theorem d_M_isTerm_21 : decode b_M_isTerm 21 = .ok (.iconst 0, 1) := by decide +kernel
theorem d_M_isTerm_22 : decode b_M_isTerm 22 = .ok (.ireturn, 1) := by decide +kernel
theorem d_M_at_0 : decode b_M_at 0 = .ok (.iload_n 0, 1) := by decide +kernel
theorem d_M_at_1 : decode b_M_at 1 = .ok (.ifCond .le 11, 3) := by decide +kernel
theorem d_M_at_4 : decode b_M_at 4 = .ok (.iconst 2, 1) := by decide +kernel
theorem d_M_at_5 : decode b_M_at 5 = .ok (.iload_n 0, 1) := by decide +kernel
theorem d_M_at_6 : decode b_M_at 6 = .ok (.imul, 1) := by decide +kernel
theorem d_M_at_7 : decode b_M_at 7 = .ok (.iconst 2, 1) := by decide +kernel
theorem d_M_at_8 : decode b_M_at 8 = .ok (.isub, 1) := by decide +kernel
theorem d_M_at_9 : decode b_M_at 9 = .ok (.goto 9, 3) := by decide +kernel
theorem d_M_at_12 : decode b_M_at 12 = .ok (.bipush (-2), 2) := by decide +kernel
theorem d_M_at_14 : decode b_M_at 14 = .ok (.iload_n 0, 1) := by decide +kernel
theorem d_M_at_15 : decode b_M_at 15 = .ok (.imul, 1) := by decide +kernel
theorem d_M_at_16 : decode b_M_at 16 = .ok (.iconst 1, 1) := by decide +kernel
theorem d_M_at_17 : decode b_M_at 17 = .ok (.isub, 1) := by decide +kernel
theorem d_M_at_18 : decode b_M_at 18 = .ok (.ireturn, 1) := by decide +kernel
theorem d_M_opposite_0 : decode b_M_opposite 0 = .ok (.iload_n 0, 1) := by decide +kernel
theorem d_M_opposite_1 : decode b_M_opposite 1 = .ok (.iconst 2, 1) := by decide +kernel
theorem d_M_opposite_2 : decode b_M_opposite 2 = .ok (.irem, 1) := by decide +kernel
theorem d_M_opposite_3 : decode b_M_opposite 3 = .ok (.ifCond .ne 9, 3) := by decide +kernel
theorem d_M_opposite_6 : decode b_M_opposite 6 = .ok (.iload_n 0, 1) := by decide +kernel
theorem d_M_opposite_7 : decode b_M_opposite 7 = .ok (.iconst 1, 1) := by decide +kernel
theorem d_M_opposite_8 : decode b_M_opposite 8 = .ok (.iadd, 1) := by decide +kernel
theorem d_M_opposite_9 : decode b_M_opposite 9 = .ok (.goto 6, 3) := by decide +kernel
theorem d_M_opposite_12 : decode b_M_opposite 12 = .ok (.iload_n 0, 1) := by decide +kernel
theorem d_M_opposite_13 : decode b_M_opposite 13 = .ok (.iconst 1, 1) := by decide +kernel
theorem d_M_opposite_14 : decode b_M_opposite 14 = .ok (.isub, 1) := by decide +kernel
theorem d_M_opposite_15 : decode b_M_opposite 15 = .ok (.ireturn, 1) := by decide +kernel
theorem d_M_half_0 : decode b_M_half 0 = .ok (.lload_n 0, 1) := by decide +kernel
theorem d_M_half_1 : decode b_M_half 1 = .ok (.lconst 0, 1) := by decide +kernel
theorem d_M_half_2 : decode b_M_half 2 = .ok (.lcmp, 1) := by decide +kernel
theorem d_M_half_3 : decode b_M_half 3 = .ok (.ifCond .lt 11, 3) := by decide +kernel
theorem d_M_half_6 : decode b_M_half 6 = .ok (.lload_n 0, 1) := by decide +kernel
theorem d_M_half_7 : decode b_M_half 7 = .ok (.ldc2_w 51, 3) := by decide +kernel
theorem d_M_half_10 : decode b_M_half 10 = .ok (.ldiv, 1) := by decide +kernel
theorem d_M_half_11 : decode b_M_half 11 = .ok (.goto 10, 3) := by decide +kernel
theorem d_M_half_14 : decode b_M_half 14 = .ok (.lload_n 0, 1) := by decide +kernel
theorem d_M_half_15 : decode b_M_half 15 = .ok (.lconst 1, 1) := by decide +kernel
theorem d_M_half_16 : decode b_M_half 16 = .ok (.lsub, 1) := by decide +kernel
theorem d_M_half_17 : decode b_M_half 17 = .ok (.ldc2_w 51, 3) := by decide +kernel
theorem d_M_half_20 : decode b_M_half 20 = .ok (.ldiv, 1) := by decide +kernel
theorem d_M_half_21 : decode b_M_half 21 = .ok (.lreturn, 1) := by decide +kernel
theorem d_M_sum_0 : decode b_M_sum 0 = .ok (.lload_n 0, 1) := by decide +kernel
theorem d_M_sum_1 : decode b_M_sum 1 = .ok (.ldc2_w 46, 3) := by decide +kernel
theorem d_M_sum_4 : decode b_M_sum 4 = .ok (.lcmp, 1) := by decide +kernel
theorem d_M_sum_5 : decode b_M_sum 5 = .ok (.ifCond .eq 11, 3) := by decide +kernel
theorem d_M_sum_8 : decode b_M_sum 8 = .ok (.lload_n 2, 1) := by decide +kernel
theorem d_M_sum_9 : decode b_M_sum 9 = .ok (.ldc2_w 46, 3) := by decide +kernel
theorem d_M_sum_12 : decode b_M_sum 12 = .ok (.lcmp, 1) := by decide +kernel
theorem d_M_sum_13 : decode b_M_sum 13 = .ok (.ifCond .ne 9, 3) := by decide +kernel
theorem d_M_sum_16 : decode b_M_sum 16 = .ok (.ldc2_w 46, 3) := by decide +kernel
theorem d_M_sum_19 : decode b_M_sum 19 = .ok (.goto 6, 3) := by decide +kernel
theorem d_M_sum_22 : decode b_M_sum 22 = .ok (.lload_n 0, 1) := by decide +kernel
theorem d_M_sum_23 : decode b_M_sum 23 = .ok (.lload_n 2, 1) := by decide +kernel
theorem d_M_sum_24 : decode b_M_sum 24 = .ok (.ladd, 1) := by decide +kernel
theorem d_M_sum_25 : decode b_M_sum 25 = .ok (.lreturn, 1) := by decide +kernel
theorem d_M_loadRows_0 : decode b_M_loadRows 0 = .ok (.iconst 0, 1) := by decide +kernel
theorem d_M_loadRows_1 : decode b_M_loadRows 1 = .ok (.istore_n 2, 1) := by decide +kernel
theorem d_M_loadRows_2 : decode b_M_loadRows 2 = .ok (.iload_n 2, 1) := by decide +kernel
theorem d_M_loadRows_3 : decode b_M_loadRows 3 = .ok (.bipush 100, 2) := by decide +kernel
theorem d_M_loadRows_5 : decode b_M_loadRows 5 = .ok (.if_icmp .ge 26, 3) := by decide +kernel
theorem d_M_loadRows_8 : decode b_M_loadRows 8 = .ok (.aload_n 0, 1) := by decide +kernel
theorem d_M_loadRows_9 : decode b_M_loadRows 9 = .ok (.getfield 17, 3) := by decide +kernel
theorem d_M_loadRows_12 : decode b_M_loadRows 12 = .ok (.iload_n 2, 1) := by decide +kernel
theorem d_M_loadRows_13 : decode b_M_loadRows 13 = .ok (.aload_n 0, 1) := by decide +kernel
theorem d_M_loadRows_14 : decode b_M_loadRows 14 = .ok (.getfield 7, 3) := by decide +kernel
theorem d_M_loadRows_17 : decode b_M_loadRows 17 = .ok (.bipush 100, 2) := by decide +kernel
theorem d_M_loadRows_19 : decode b_M_loadRows 19 = .ok (.iload_n 1, 1) := by decide +kernel
theorem d_M_loadRows_20 : decode b_M_loadRows 20 = .ok (.imul, 1) := by decide +kernel
theorem d_M_loadRows_21 : decode b_M_loadRows 21 = .ok (.iload_n 2, 1) := by decide +kernel
theorem d_M_loadRows_22 : decode b_M_loadRows 22 = .ok (.iadd, 1) := by decide +kernel
theorem d_M_loadRows_23 : decode b_M_loadRows 23 = .ok (.laload, 1) := by decide +kernel
theorem d_M_loadRows_24 : decode b_M_loadRows 24 = .ok (.lastore, 1) := by decide +kernel
theorem d_M_loadRows_25 : decode b_M_loadRows 25 = .ok (.iinc 2 1, 3) := by decide +kernel
theorem d_M_loadRows_28 : decode b_M_loadRows 28 = .ok (.goto (-26), 3) := by decide +kernel
theorem d_M_loadRows_31 : decode b_M_loadRows 31 = .ok (.iconst 0, 1) := by decide +kernel
theorem d_M_loadRows_32 : decode b_M_loadRows 32 = .ok (.istore_n 2, 1) := by decide +kernel
theorem d_M_loadRows_33 : decode b_M_loadRows 33 = .ok (.iload_n 2, 1) := by decide +kernel
theorem d_M_loadRows_34 : decode b_M_loadRows 34 = .ok (.bipush 10, 2) := by decide +kernel
theorem d_M_loadRows_36 : decode b_M_loadRows 36 = .ok (.if_icmp .ge 53, 3) := by decide +kernel
theorem d_M_loadRows_39 : decode b_M_loadRows 39 = .ok (.aload_n 0, 1) := by decide +kernel
theorem d_M_loadRows_40 : decode b_M_loadRows 40 = .ok (.getfield 17, 3) := by decide +kernel
theorem d_M_loadRows_43 : decode b_M_loadRows 43 = .ok (.bipush 11, 2) := by decide +kernel
theorem d_M_loadRows_45 : decode b_M_loadRows 45 = .ok (.iload_n 2, 1) := by decide +kernel
theorem d_M_loadRows_46 : decode b_M_loadRows 46 = .ok (.imul, 1) := by decide +kernel
theorem d_M_loadRows_47 : decode b_M_loadRows 47 = .ok (.aload_n 0, 1) := by decide +kernel
theorem d_M_loadRows_48 : decode b_M_loadRows 48 = .ok (.getfield 17, 3) := by decide +kernel
theorem d_M_loadRows_51 : decode b_M_loadRows 51 = .ok (.bipush 11, 2) := by decide +kernel
theorem d_M_loadRows_53 : decode b_M_loadRows 53 = .ok (.iload_n 2, 1) := by decide +kernel
theorem d_M_loadRows_54 : decode b_M_loadRows 54 = .ok (.imul, 1) := by decide +kernel
theorem d_M_loadRows_55 : decode b_M_loadRows 55 = .ok (.laload, 1) := by decide +kernel
theorem d_M_loadRows_56 : decode b_M_loadRows 56 = .ok (.ldc2_w 46, 3) := by decide +kernel
theorem d_M_loadRows_59 : decode b_M_loadRows 59 = .ok (.lcmp, 1) := by decide +kernel
theorem d_M_loadRows_60 : decode b_M_loadRows 60 = .ok (.ifCond .ne 9, 3) := by decide +kernel
theorem d_M_loadRows_63 : decode b_M_loadRows 63 = .ok (.ldc2_w 46, 3) := by decide +kernel
theorem d_M_loadRows_66 : decode b_M_loadRows 66 = .ok (.goto 16, 3) := by decide +kernel
theorem d_M_loadRows_69 : decode b_M_loadRows 69 = .ok (.ldc2_w 51, 3) := by decide +kernel
theorem d_M_loadRows_72 : decode b_M_loadRows 72 = .ok (.aload_n 0, 1) := by decide +kernel
theorem d_M_loadRows_73 : decode b_M_loadRows 73 = .ok (.getfield 17, 3) := by decide +kernel
theorem d_M_loadRows_76 : decode b_M_loadRows 76 = .ok (.bipush 11, 2) := by decide +kernel
theorem d_M_loadRows_78 : decode b_M_loadRows 78 = .ok (.iload_n 2, 1) := by decide +kernel
theorem d_M_loadRows_79 : decode b_M_loadRows 79 = .ok (.imul, 1) := by decide +kernel
theorem d_M_loadRows_80 : decode b_M_loadRows 80 = .ok (.laload, 1) := by decide +kernel
theorem d_M_loadRows_81 : decode b_M_loadRows 81 = .ok (.lmul, 1) := by decide +kernel
theorem d_M_loadRows_82 : decode b_M_loadRows 82 = .ok (.lastore, 1) := by decide +kernel
theorem d_M_loadRows_83 : decode b_M_loadRows 83 = .ok (.iinc 2 1, 3) := by decide +kernel
theorem d_M_loadRows_86 : decode b_M_loadRows 86 = .ok (.goto (-53), 3) := by decide +kernel
theorem d_M_loadRows_89 : decode b_M_loadRows 89 = .ok (.return_, 1) := by decide +kernel
theorem d_M_close_0 : decode b_M_close 0 = .ok (.iconst 2, 1) := by decide +kernel
theorem d_M_close_1 : decode b_M_close 1 = .ok (.aload_n 0, 1) := by decide +kernel
theorem d_M_close_2 : decode b_M_close 2 = .ok (.getfield 42, 3) := by decide +kernel
theorem d_M_close_5 : decode b_M_close 5 = .ok (.imul, 1) := by decide +kernel
theorem d_M_close_6 : decode b_M_close 6 = .ok (.istore_n 1, 1) := by decide +kernel
theorem d_M_close_7 : decode b_M_close 7 = .ok (.iconst 0, 1) := by decide +kernel
theorem d_M_close_8 : decode b_M_close 8 = .ok (.istore_n 2, 1) := by decide +kernel
theorem d_M_close_9 : decode b_M_close 9 = .ok (.iload_n 2, 1) := by decide +kernel
theorem d_M_close_10 : decode b_M_close 10 = .ok (.iload_n 1, 1) := by decide +kernel
theorem d_M_close_11 : decode b_M_close 11 = .ok (.if_icmp .ge 46, 3) := by decide +kernel
theorem d_M_close_14 : decode b_M_close 14 = .ok (.bipush 10, 2) := by decide +kernel
theorem d_M_close_16 : decode b_M_close 16 = .ok (.iload_n 2, 1) := by decide +kernel
theorem d_M_close_17 : decode b_M_close 17 = .ok (.imul, 1) := by decide +kernel
theorem d_M_close_18 : decode b_M_close 18 = .ok (.iload_n 2, 1) := by decide +kernel
theorem d_M_close_19 : decode b_M_close 19 = .ok (.invokestatic 53, 3) := by decide +kernel
theorem d_M_close_22 : decode b_M_close 22 = .ok (.iadd, 1) := by decide +kernel
theorem d_M_close_23 : decode b_M_close 23 = .ok (.istore_n 3, 1) := by decide +kernel
theorem d_M_close_24 : decode b_M_close 24 = .ok (.aload_n 0, 1) := by decide +kernel
theorem d_M_close_25 : decode b_M_close 25 = .ok (.getfield 17, 3) := by decide +kernel
theorem d_M_close_28 : decode b_M_close 28 = .ok (.iload_n 3, 1) := by decide +kernel
theorem d_M_close_29 : decode b_M_close 29 = .ok (.aload_n 0, 1) := by decide +kernel
theorem d_M_close_30 : decode b_M_close 30 = .ok (.getfield 17, 3) := by decide +kernel
theorem d_M_close_33 : decode b_M_close 33 = .ok (.iload_n 3, 1) := by decide +kernel
theorem d_M_close_34 : decode b_M_close 34 = .ok (.laload, 1) := by decide +kernel
theorem d_M_close_35 : decode b_M_close 35 = .ok (.lconst 0, 1) := by decide +kernel
theorem d_M_close_36 : decode b_M_close 36 = .ok (.lcmp, 1) := by decide +kernel
theorem d_M_close_37 : decode b_M_close 37 = .ok (.ifCond .ge 12, 3) := by decide +kernel
theorem d_M_close_40 : decode b_M_close 40 = .ok (.aload_n 0, 1) := by decide +kernel
theorem d_M_close_41 : decode b_M_close 41 = .ok (.getfield 17, 3) := by decide +kernel
theorem d_M_close_44 : decode b_M_close 44 = .ok (.iload_n 3, 1) := by decide +kernel
theorem d_M_close_45 : decode b_M_close 45 = .ok (.laload, 1) := by decide +kernel
theorem d_M_close_46 : decode b_M_close 46 = .ok (.goto 4, 3) := by decide +kernel
theorem d_M_close_49 : decode b_M_close 49 = .ok (.lconst 0, 1) := by decide +kernel
theorem d_M_close_50 : decode b_M_close 50 = .ok (.lastore, 1) := by decide +kernel
theorem d_M_close_51 : decode b_M_close 51 = .ok (.iinc 2 1, 3) := by decide +kernel
theorem d_M_close_54 : decode b_M_close 54 = .ok (.goto (-45), 3) := by decide +kernel
theorem d_M_close_57 : decode b_M_close 57 = .ok (.iconst 1, 1) := by decide +kernel
theorem d_M_close_58 : decode b_M_close 58 = .ok (.istore_n 2, 1) := by decide +kernel
theorem d_M_close_59 : decode b_M_close 59 = .ok (.iload_n 2, 1) := by decide +kernel
theorem d_M_close_60 : decode b_M_close 60 = .ok (.ifCond .eq 422, 3) := by decide +kernel
theorem d_M_close_63 : decode b_M_close 63 = .ok (.iconst 0, 1) := by decide +kernel
theorem d_M_close_64 : decode b_M_close 64 = .ok (.istore_n 2, 1) := by decide +kernel
theorem d_M_close_65 : decode b_M_close 65 = .ok (.iconst 0, 1) := by decide +kernel
theorem d_M_close_66 : decode b_M_close 66 = .ok (.istore_n 3, 1) := by decide +kernel
theorem d_M_close_67 : decode b_M_close 67 = .ok (.iload_n 3, 1) := by decide +kernel
theorem d_M_close_68 : decode b_M_close 68 = .ok (.iload_n 1, 1) := by decide +kernel
theorem d_M_close_69 : decode b_M_close 69 = .ok (.if_icmp .ge 160, 3) := by decide +kernel
theorem d_M_close_72 : decode b_M_close 72 = .ok (.iconst 0, 1) := by decide +kernel
theorem d_M_close_73 : decode b_M_close 73 = .ok (.istore 4, 2) := by decide +kernel
theorem d_M_close_75 : decode b_M_close 75 = .ok (.iload 4, 2) := by decide +kernel
theorem d_M_close_77 : decode b_M_close 77 = .ok (.iload_n 1, 1) := by decide +kernel
theorem d_M_close_78 : decode b_M_close 78 = .ok (.if_icmp .ge 107, 3) := by decide +kernel
theorem d_M_close_81 : decode b_M_close 81 = .ok (.iconst 0, 1) := by decide +kernel
theorem d_M_close_82 : decode b_M_close 82 = .ok (.istore 5, 2) := by decide +kernel
theorem d_M_close_84 : decode b_M_close 84 = .ok (.iload 5, 2) := by decide +kernel
theorem d_M_close_86 : decode b_M_close 86 = .ok (.iload_n 1, 1) := by decide +kernel
theorem d_M_close_87 : decode b_M_close 87 = .ok (.if_icmp .ge 92, 3) := by decide +kernel
theorem d_M_close_90 : decode b_M_close 90 = .ok (.aload_n 0, 1) := by decide +kernel
theorem d_M_close_91 : decode b_M_close 91 = .ok (.getfield 17, 3) := by decide +kernel
theorem d_M_close_94 : decode b_M_close 94 = .ok (.bipush 10, 2) := by decide +kernel
theorem d_M_close_96 : decode b_M_close 96 = .ok (.iload 4, 2) := by decide +kernel
theorem d_M_close_98 : decode b_M_close 98 = .ok (.imul, 1) := by decide +kernel
theorem d_M_close_99 : decode b_M_close 99 = .ok (.iload_n 3, 1) := by decide +kernel
theorem d_M_close_100 : decode b_M_close 100 = .ok (.iadd, 1) := by decide +kernel
theorem d_M_close_101 : decode b_M_close 101 = .ok (.laload, 1) := by decide +kernel
theorem d_M_close_102 : decode b_M_close 102 = .ok (.aload_n 0, 1) := by decide +kernel
theorem d_M_close_103 : decode b_M_close 103 = .ok (.getfield 17, 3) := by decide +kernel
theorem d_M_close_106 : decode b_M_close 106 = .ok (.bipush 10, 2) := by decide +kernel
theorem d_M_close_108 : decode b_M_close 108 = .ok (.iload_n 3, 1) := by decide +kernel
theorem d_M_close_109 : decode b_M_close 109 = .ok (.invokestatic 53, 3) := by decide +kernel
theorem d_M_close_112 : decode b_M_close 112 = .ok (.imul, 1) := by decide +kernel
theorem d_M_close_113 : decode b_M_close 113 = .ok (.iload 5, 2) := by decide +kernel
theorem d_M_close_115 : decode b_M_close 115 = .ok (.iadd, 1) := by decide +kernel
theorem d_M_close_116 : decode b_M_close 116 = .ok (.laload, 1) := by decide +kernel
theorem d_M_close_117 : decode b_M_close 117 = .ok (.invokestatic 57, 3) := by decide +kernel
theorem d_M_close_120 : decode b_M_close 120 = .ok (.lstore 6, 2) := by decide +kernel
theorem d_M_close_122 : decode b_M_close 122 = .ok (.lload 6, 2) := by decide +kernel
theorem d_M_close_124 : decode b_M_close 124 = .ok (.aload_n 0, 1) := by decide +kernel
theorem d_M_close_125 : decode b_M_close 125 = .ok (.getfield 17, 3) := by decide +kernel
theorem d_M_close_128 : decode b_M_close 128 = .ok (.bipush 10, 2) := by decide +kernel
theorem d_M_close_130 : decode b_M_close 130 = .ok (.iload 4, 2) := by decide +kernel
theorem d_M_close_132 : decode b_M_close 132 = .ok (.imul, 1) := by decide +kernel
theorem d_M_close_133 : decode b_M_close 133 = .ok (.iload 5, 2) := by decide +kernel
theorem d_M_close_135 : decode b_M_close 135 = .ok (.iadd, 1) := by decide +kernel
theorem d_M_close_136 : decode b_M_close 136 = .ok (.laload, 1) := by decide +kernel
theorem d_M_close_137 : decode b_M_close 137 = .ok (.lcmp, 1) := by decide +kernel
theorem d_M_close_138 : decode b_M_close 138 = .ok (.ifCond .ge 35, 3) := by decide +kernel
theorem d_M_close_141 : decode b_M_close 141 = .ok (.aload_n 0, 1) := by decide +kernel
theorem d_M_close_142 : decode b_M_close 142 = .ok (.getfield 17, 3) := by decide +kernel
theorem d_M_close_145 : decode b_M_close 145 = .ok (.bipush 10, 2) := by decide +kernel
theorem d_M_close_147 : decode b_M_close 147 = .ok (.iload 4, 2) := by decide +kernel
theorem d_M_close_149 : decode b_M_close 149 = .ok (.imul, 1) := by decide +kernel
theorem d_M_close_150 : decode b_M_close 150 = .ok (.iload 5, 2) := by decide +kernel
theorem d_M_close_152 : decode b_M_close 152 = .ok (.iadd, 1) := by decide +kernel
theorem d_M_close_153 : decode b_M_close 153 = .ok (.lload 6, 2) := by decide +kernel
theorem d_M_close_155 : decode b_M_close 155 = .ok (.lastore, 1) := by decide +kernel
theorem d_M_close_156 : decode b_M_close 156 = .ok (.aload_n 0, 1) := by decide +kernel
theorem d_M_close_157 : decode b_M_close 157 = .ok (.getfield 17, 3) := by decide +kernel
theorem d_M_close_160 : decode b_M_close 160 = .ok (.bipush 10, 2) := by decide +kernel
theorem d_M_close_162 : decode b_M_close 162 = .ok (.iload 5, 2) := by decide +kernel
theorem d_M_close_164 : decode b_M_close 164 = .ok (.imul, 1) := by decide +kernel
theorem d_M_close_165 : decode b_M_close 165 = .ok (.iload 4, 2) := by decide +kernel
theorem d_M_close_167 : decode b_M_close 167 = .ok (.iadd, 1) := by decide +kernel
theorem d_M_close_168 : decode b_M_close 168 = .ok (.lload 6, 2) := by decide +kernel
theorem d_M_close_170 : decode b_M_close 170 = .ok (.lastore, 1) := by decide +kernel
theorem d_M_close_171 : decode b_M_close 171 = .ok (.iconst 1, 1) := by decide +kernel
theorem d_M_close_172 : decode b_M_close 172 = .ok (.istore_n 2, 1) := by decide +kernel
theorem d_M_close_173 : decode b_M_close 173 = .ok (.iinc 5 1, 3) := by decide +kernel
theorem d_M_close_176 : decode b_M_close 176 = .ok (.goto (-92), 3) := by decide +kernel
theorem d_M_close_179 : decode b_M_close 179 = .ok (.iinc 4 1, 3) := by decide +kernel
theorem d_M_close_182 : decode b_M_close 182 = .ok (.goto (-107), 3) := by decide +kernel
theorem d_M_close_185 : decode b_M_close 185 = .ok (.iconst 0, 1) := by decide +kernel
theorem d_M_close_186 : decode b_M_close 186 = .ok (.istore 4, 2) := by decide +kernel
theorem d_M_close_188 : decode b_M_close 188 = .ok (.iload 4, 2) := by decide +kernel
theorem d_M_close_190 : decode b_M_close 190 = .ok (.iload_n 1, 1) := by decide +kernel
theorem d_M_close_191 : decode b_M_close 191 = .ok (.if_icmp .ge 32, 3) := by decide +kernel
theorem d_M_close_194 : decode b_M_close 194 = .ok (.aload_n 0, 1) := by decide +kernel
theorem d_M_close_195 : decode b_M_close 195 = .ok (.getfield 17, 3) := by decide +kernel
theorem d_M_close_198 : decode b_M_close 198 = .ok (.bipush 10, 2) := by decide +kernel
theorem d_M_close_200 : decode b_M_close 200 = .ok (.iload 4, 2) := by decide +kernel
theorem d_M_close_202 : decode b_M_close 202 = .ok (.imul, 1) := by decide +kernel
theorem d_M_close_203 : decode b_M_close 203 = .ok (.iload 4, 2) := by decide +kernel
theorem d_M_close_205 : decode b_M_close 205 = .ok (.invokestatic 53, 3) := by decide +kernel
theorem d_M_close_208 : decode b_M_close 208 = .ok (.iadd, 1) := by decide +kernel
theorem d_M_close_209 : decode b_M_close 209 = .ok (.laload, 1) := by decide +kernel
theorem d_M_close_210 : decode b_M_close 210 = .ok (.lconst 0, 1) := by decide +kernel
theorem d_M_close_211 : decode b_M_close 211 = .ok (.lcmp, 1) := by decide +kernel
theorem d_M_close_212 : decode b_M_close 212 = .ok (.ifCond .ge 5, 3) := by decide +kernel
theorem d_M_close_215 : decode b_M_close 215 = .ok (.iconst 0, 1) := by decide +kernel
theorem d_M_close_216 : decode b_M_close 216 = .ok (.ireturn, 1) := by decide +kernel
theorem d_M_close_217 : decode b_M_close 217 = .ok (.iinc 4 1, 3) := by decide +kernel
theorem d_M_close_220 : decode b_M_close 220 = .ok (.goto (-32), 3) := by decide +kernel
theorem d_M_close_223 : decode b_M_close 223 = .ok (.iinc 3 1, 3) := by decide +kernel
theorem d_M_close_226 : decode b_M_close 226 = .ok (.goto (-159), 3) := by decide +kernel
theorem d_M_close_229 : decode b_M_close 229 = .ok (.iconst 0, 1) := by decide +kernel
theorem d_M_close_230 : decode b_M_close 230 = .ok (.istore_n 3, 1) := by decide +kernel
theorem d_M_close_231 : decode b_M_close 231 = .ok (.iload_n 3, 1) := by decide +kernel
theorem d_M_close_232 : decode b_M_close 232 = .ok (.iload_n 1, 1) := by decide +kernel
theorem d_M_close_233 : decode b_M_close 233 = .ok (.if_icmp .ge 70, 3) := by decide +kernel
theorem d_M_close_236 : decode b_M_close 236 = .ok (.aload_n 0, 1) := by decide +kernel
theorem d_M_close_237 : decode b_M_close 237 = .ok (.getfield 17, 3) := by decide +kernel
theorem d_M_close_240 : decode b_M_close 240 = .ok (.bipush 11, 2) := by decide +kernel
theorem d_M_close_242 : decode b_M_close 242 = .ok (.iload_n 3, 1) := by decide +kernel
theorem d_M_close_243 : decode b_M_close 243 = .ok (.imul, 1) := by decide +kernel
theorem d_M_close_244 : decode b_M_close 244 = .ok (.laload, 1) := by decide +kernel
theorem d_M_close_245 : decode b_M_close 245 = .ok (.ldc2_w 46, 3) := by decide +kernel
theorem d_M_close_248 : decode b_M_close 248 = .ok (.lcmp, 1) := by decide +kernel
theorem d_M_close_249 : decode b_M_close 249 = .ok (.ifCond .eq 48, 3) := by decide +kernel
theorem d_M_close_252 : decode b_M_close 252 = .ok (.aload_n 0, 1) := by decide +kernel
theorem d_M_close_253 : decode b_M_close 253 = .ok (.getfield 17, 3) := by decide +kernel
theorem d_M_close_256 : decode b_M_close 256 = .ok (.bipush 11, 2) := by decide +kernel
theorem d_M_close_258 : decode b_M_close 258 = .ok (.iload_n 3, 1) := by decide +kernel
theorem d_M_close_259 : decode b_M_close 259 = .ok (.imul, 1) := by decide +kernel
theorem d_M_close_260 : decode b_M_close 260 = .ok (.laload, 1) := by decide +kernel
theorem d_M_close_261 : decode b_M_close 261 = .ok (.ldc2_w 51, 3) := by decide +kernel
theorem d_M_close_264 : decode b_M_close 264 = .ok (.lrem, 1) := by decide +kernel
theorem d_M_close_265 : decode b_M_close 265 = .ok (.lconst 0, 1) := by decide +kernel
theorem d_M_close_266 : decode b_M_close 266 = .ok (.lcmp, 1) := by decide +kernel
theorem d_M_close_267 : decode b_M_close 267 = .ok (.ifCond .eq 30, 3) := by decide +kernel
theorem d_M_close_270 : decode b_M_close 270 = .ok (.aload_n 0, 1) := by decide +kernel
theorem d_M_close_271 : decode b_M_close 271 = .ok (.getfield 17, 3) := by decide +kernel
theorem d_M_close_274 : decode b_M_close 274 = .ok (.bipush 11, 2) := by decide +kernel
theorem d_M_close_276 : decode b_M_close 276 = .ok (.iload_n 3, 1) := by decide +kernel
theorem d_M_close_277 : decode b_M_close 277 = .ok (.imul, 1) := by decide +kernel
theorem d_M_close_278 : decode b_M_close 278 = .ok (.ldc2_w 51, 3) := by decide +kernel
theorem d_M_close_281 : decode b_M_close 281 = .ok (.aload_n 0, 1) := by decide +kernel
theorem d_M_close_282 : decode b_M_close 282 = .ok (.getfield 17, 3) := by decide +kernel
theorem d_M_close_285 : decode b_M_close 285 = .ok (.bipush 11, 2) := by decide +kernel
theorem d_M_close_287 : decode b_M_close 287 = .ok (.iload_n 3, 1) := by decide +kernel
theorem d_M_close_288 : decode b_M_close 288 = .ok (.imul, 1) := by decide +kernel
theorem d_M_close_289 : decode b_M_close 289 = .ok (.laload, 1) := by decide +kernel
theorem d_M_close_290 : decode b_M_close 290 = .ok (.invokestatic 61, 3) := by decide +kernel
theorem d_M_close_293 : decode b_M_close 293 = .ok (.lmul, 1) := by decide +kernel
theorem d_M_close_294 : decode b_M_close 294 = .ok (.lastore, 1) := by decide +kernel
theorem d_M_close_295 : decode b_M_close 295 = .ok (.iconst 1, 1) := by decide +kernel
theorem d_M_close_296 : decode b_M_close 296 = .ok (.istore_n 2, 1) := by decide +kernel
theorem d_M_close_297 : decode b_M_close 297 = .ok (.iinc 3 1, 3) := by decide +kernel
theorem d_M_close_300 : decode b_M_close 300 = .ok (.goto (-69), 3) := by decide +kernel
theorem d_M_close_303 : decode b_M_close 303 = .ok (.iconst 0, 1) := by decide +kernel
theorem d_M_close_304 : decode b_M_close 304 = .ok (.istore_n 3, 1) := by decide +kernel
theorem d_M_close_305 : decode b_M_close 305 = .ok (.iload_n 3, 1) := by decide +kernel
theorem d_M_close_306 : decode b_M_close 306 = .ok (.iload_n 1, 1) := by decide +kernel
theorem d_M_close_307 : decode b_M_close 307 = .ok (.if_icmp .ge 172, 3) := by decide +kernel
theorem d_M_close_310 : decode b_M_close 310 = .ok (.aload_n 0, 1) := by decide +kernel
theorem d_M_close_311 : decode b_M_close 311 = .ok (.getfield 17, 3) := by decide +kernel
theorem d_M_close_314 : decode b_M_close 314 = .ok (.bipush 11, 2) := by decide +kernel
theorem d_M_close_316 : decode b_M_close 316 = .ok (.iload_n 3, 1) := by decide +kernel
theorem d_M_close_317 : decode b_M_close 317 = .ok (.imul, 1) := by decide +kernel
theorem d_M_close_318 : decode b_M_close 318 = .ok (.laload, 1) := by decide +kernel
theorem d_M_close_319 : decode b_M_close 319 = .ok (.aload_n 0, 1) := by decide +kernel
theorem d_M_close_320 : decode b_M_close 320 = .ok (.getfield 17, 3) := by decide +kernel
theorem d_M_close_323 : decode b_M_close 323 = .ok (.bipush 11, 2) := by decide +kernel
theorem d_M_close_325 : decode b_M_close 325 = .ok (.iload_n 3, 1) := by decide +kernel
theorem d_M_close_326 : decode b_M_close 326 = .ok (.invokestatic 53, 3) := by decide +kernel
theorem d_M_close_329 : decode b_M_close 329 = .ok (.imul, 1) := by decide +kernel
theorem d_M_close_330 : decode b_M_close 330 = .ok (.laload, 1) := by decide +kernel
theorem d_M_close_331 : decode b_M_close 331 = .ok (.invokestatic 57, 3) := by decide +kernel
theorem d_M_close_334 : decode b_M_close 334 = .ok (.lconst 0, 1) := by decide +kernel
theorem d_M_close_335 : decode b_M_close 335 = .ok (.lcmp, 1) := by decide +kernel
theorem d_M_close_336 : decode b_M_close 336 = .ok (.ifCond .ge 5, 3) := by decide +kernel
theorem d_M_close_339 : decode b_M_close 339 = .ok (.iconst 0, 1) := by decide +kernel
theorem d_M_close_340 : decode b_M_close 340 = .ok (.ireturn, 1) := by decide +kernel
theorem d_M_close_341 : decode b_M_close 341 = .ok (.iconst 0, 1) := by decide +kernel
theorem d_M_close_342 : decode b_M_close 342 = .ok (.istore 4, 2) := by decide +kernel
theorem d_M_close_344 : decode b_M_close 344 = .ok (.iload 4, 2) := by decide +kernel
theorem d_M_close_346 : decode b_M_close 346 = .ok (.iload_n 1, 1) := by decide +kernel
theorem d_M_close_347 : decode b_M_close 347 = .ok (.if_icmp .ge 126, 3) := by decide +kernel
theorem d_M_close_350 : decode b_M_close 350 = .ok (.aload_n 0, 1) := by decide +kernel
theorem d_M_close_351 : decode b_M_close 351 = .ok (.getfield 17, 3) := by decide +kernel
theorem d_M_close_354 : decode b_M_close 354 = .ok (.bipush 11, 2) := by decide +kernel
theorem d_M_close_356 : decode b_M_close 356 = .ok (.iload_n 3, 1) := by decide +kernel
theorem d_M_close_357 : decode b_M_close 357 = .ok (.imul, 1) := by decide +kernel
theorem d_M_close_358 : decode b_M_close 358 = .ok (.laload, 1) := by decide +kernel
theorem d_M_close_359 : decode b_M_close 359 = .ok (.ldc2_w 46, 3) := by decide +kernel
theorem d_M_close_362 : decode b_M_close 362 = .ok (.lcmp, 1) := by decide +kernel
theorem d_M_close_363 : decode b_M_close 363 = .ok (.ifCond .eq 20, 3) := by decide +kernel
theorem d_M_close_366 : decode b_M_close 366 = .ok (.aload_n 0, 1) := by decide +kernel
theorem d_M_close_367 : decode b_M_close 367 = .ok (.getfield 17, 3) := by decide +kernel
theorem d_M_close_370 : decode b_M_close 370 = .ok (.bipush 11, 2) := by decide +kernel
theorem d_M_close_372 : decode b_M_close 372 = .ok (.iload 4, 2) := by decide +kernel
theorem d_M_close_374 : decode b_M_close 374 = .ok (.imul, 1) := by decide +kernel
theorem d_M_close_375 : decode b_M_close 375 = .ok (.laload, 1) := by decide +kernel
theorem d_M_close_376 : decode b_M_close 376 = .ok (.ldc2_w 46, 3) := by decide +kernel
theorem d_M_close_379 : decode b_M_close 379 = .ok (.lcmp, 1) := by decide +kernel
theorem d_M_close_380 : decode b_M_close 380 = .ok (.ifCond .ne 9, 3) := by decide +kernel
theorem d_M_close_383 : decode b_M_close 383 = .ok (.ldc2_w 46, 3) := by decide +kernel
theorem d_M_close_386 : decode b_M_close 386 = .ok (.goto 31, 3) := by decide +kernel
theorem d_M_close_389 : decode b_M_close 389 = .ok (.aload_n 0, 1) := by decide +kernel
theorem d_M_close_390 : decode b_M_close 390 = .ok (.getfield 17, 3) := by decide +kernel
theorem d_M_close_393 : decode b_M_close 393 = .ok (.bipush 11, 2) := by decide +kernel
theorem d_M_close_395 : decode b_M_close 395 = .ok (.iload_n 3, 1) := by decide +kernel
theorem d_M_close_396 : decode b_M_close 396 = .ok (.imul, 1) := by decide +kernel
theorem d_M_close_397 : decode b_M_close 397 = .ok (.laload, 1) := by decide +kernel
theorem d_M_close_398 : decode b_M_close 398 = .ok (.ldc2_w 51, 3) := by decide +kernel
theorem d_M_close_401 : decode b_M_close 401 = .ok (.ldiv, 1) := by decide +kernel
theorem d_M_close_402 : decode b_M_close 402 = .ok (.aload_n 0, 1) := by decide +kernel
theorem d_M_close_403 : decode b_M_close 403 = .ok (.getfield 17, 3) := by decide +kernel
theorem d_M_close_406 : decode b_M_close 406 = .ok (.bipush 11, 2) := by decide +kernel
theorem d_M_close_408 : decode b_M_close 408 = .ok (.iload 4, 2) := by decide +kernel
theorem d_M_close_410 : decode b_M_close 410 = .ok (.imul, 1) := by decide +kernel
theorem d_M_close_411 : decode b_M_close 411 = .ok (.laload, 1) := by decide +kernel
theorem d_M_close_412 : decode b_M_close 412 = .ok (.ldc2_w 51, 3) := by decide +kernel
theorem d_M_close_415 : decode b_M_close 415 = .ok (.ldiv, 1) := by decide +kernel
theorem d_M_close_416 : decode b_M_close 416 = .ok (.ladd, 1) := by decide +kernel
theorem d_M_close_417 : decode b_M_close 417 = .ok (.lstore 5, 2) := by decide +kernel
theorem d_M_close_419 : decode b_M_close 419 = .ok (.lload 5, 2) := by decide +kernel
theorem d_M_close_421 : decode b_M_close 421 = .ok (.aload_n 0, 1) := by decide +kernel
theorem d_M_close_422 : decode b_M_close 422 = .ok (.getfield 17, 3) := by decide +kernel
theorem d_M_close_425 : decode b_M_close 425 = .ok (.bipush 10, 2) := by decide +kernel
theorem d_M_close_427 : decode b_M_close 427 = .ok (.iload_n 3, 1) := by decide +kernel
theorem d_M_close_428 : decode b_M_close 428 = .ok (.imul, 1) := by decide +kernel
theorem d_M_close_429 : decode b_M_close 429 = .ok (.iload 4, 2) := by decide +kernel
theorem d_M_close_431 : decode b_M_close 431 = .ok (.iadd, 1) := by decide +kernel
theorem d_M_close_432 : decode b_M_close 432 = .ok (.laload, 1) := by decide +kernel
theorem d_M_close_433 : decode b_M_close 433 = .ok (.lcmp, 1) := by decide +kernel
theorem d_M_close_434 : decode b_M_close 434 = .ok (.ifCond .ge 33, 3) := by decide +kernel
theorem d_M_close_437 : decode b_M_close 437 = .ok (.aload_n 0, 1) := by decide +kernel
theorem d_M_close_438 : decode b_M_close 438 = .ok (.getfield 17, 3) := by decide +kernel
theorem d_M_close_441 : decode b_M_close 441 = .ok (.bipush 10, 2) := by decide +kernel
theorem d_M_close_443 : decode b_M_close 443 = .ok (.iload_n 3, 1) := by decide +kernel
theorem d_M_close_444 : decode b_M_close 444 = .ok (.imul, 1) := by decide +kernel
theorem d_M_close_445 : decode b_M_close 445 = .ok (.iload 4, 2) := by decide +kernel
theorem d_M_close_447 : decode b_M_close 447 = .ok (.iadd, 1) := by decide +kernel
theorem d_M_close_448 : decode b_M_close 448 = .ok (.lload 5, 2) := by decide +kernel
theorem d_M_close_450 : decode b_M_close 450 = .ok (.lastore, 1) := by decide +kernel
theorem d_M_close_451 : decode b_M_close 451 = .ok (.aload_n 0, 1) := by decide +kernel
theorem d_M_close_452 : decode b_M_close 452 = .ok (.getfield 17, 3) := by decide +kernel
theorem d_M_close_455 : decode b_M_close 455 = .ok (.bipush 10, 2) := by decide +kernel
theorem d_M_close_457 : decode b_M_close 457 = .ok (.iload 4, 2) := by decide +kernel
theorem d_M_close_459 : decode b_M_close 459 = .ok (.imul, 1) := by decide +kernel
theorem d_M_close_460 : decode b_M_close 460 = .ok (.iload_n 3, 1) := by decide +kernel
theorem d_M_close_461 : decode b_M_close 461 = .ok (.iadd, 1) := by decide +kernel
theorem d_M_close_462 : decode b_M_close 462 = .ok (.lload 5, 2) := by decide +kernel
theorem d_M_close_464 : decode b_M_close 464 = .ok (.lastore, 1) := by decide +kernel
theorem d_M_close_465 : decode b_M_close 465 = .ok (.iconst 1, 1) := by decide +kernel
theorem d_M_close_466 : decode b_M_close 466 = .ok (.istore_n 2, 1) := by decide +kernel
theorem d_M_close_467 : decode b_M_close 467 = .ok (.iinc 4 1, 3) := by decide +kernel
theorem d_M_close_470 : decode b_M_close 470 = .ok (.goto (-126), 3) := by decide +kernel
theorem d_M_close_473 : decode b_M_close 473 = .ok (.iinc 3 1, 3) := by decide +kernel
theorem d_M_close_476 : decode b_M_close 476 = .ok (.goto (-171), 3) := by decide +kernel
theorem d_M_close_479 : decode b_M_close 479 = .ok (.goto (-420), 3) := by decide +kernel
theorem d_M_close_482 : decode b_M_close 482 = .ok (.iconst 1, 1) := by decide +kernel
theorem d_M_close_483 : decode b_M_close 483 = .ok (.ireturn, 1) := by decide +kernel
theorem d_M_isFar_0 : decode b_M_isFar 0 = .ok (.iconst 0, 1) := by decide +kernel
theorem d_M_isFar_1 : decode b_M_isFar 1 = .ok (.istore_n 1, 1) := by decide +kernel
theorem d_M_isFar_2 : decode b_M_isFar 2 = .ok (.iload_n 1, 1) := by decide +kernel
theorem d_M_isFar_3 : decode b_M_isFar 3 = .ok (.iconst 2, 1) := by decide +kernel
theorem d_M_isFar_4 : decode b_M_isFar 4 = .ok (.aload_n 0, 1) := by decide +kernel
theorem d_M_isFar_5 : decode b_M_isFar 5 = .ok (.getfield 42, 3) := by decide +kernel
theorem d_M_isFar_8 : decode b_M_isFar 8 = .ok (.imul, 1) := by decide +kernel
theorem d_M_isFar_9 : decode b_M_isFar 9 = .ok (.if_icmp .ge 91, 3) := by decide +kernel
theorem d_M_isFar_12 : decode b_M_isFar 12 = .ok (.iconst 0, 1) := by decide +kernel
theorem d_M_isFar_13 : decode b_M_isFar 13 = .ok (.istore_n 2, 1) := by decide +kernel
theorem d_M_isFar_14 : decode b_M_isFar 14 = .ok (.iload_n 2, 1) := by decide +kernel
theorem d_M_isFar_15 : decode b_M_isFar 15 = .ok (.iconst 2, 1) := by decide +kernel
theorem d_M_isFar_16 : decode b_M_isFar 16 = .ok (.aload_n 0, 1) := by decide +kernel
theorem d_M_isFar_17 : decode b_M_isFar 17 = .ok (.getfield 42, 3) := by decide +kernel
theorem d_M_isFar_20 : decode b_M_isFar 20 = .ok (.imul, 1) := by decide +kernel
theorem d_M_isFar_21 : decode b_M_isFar 21 = .ok (.if_icmp .ge 73, 3) := by decide +kernel
theorem d_M_isFar_24 : decode b_M_isFar 24 = .ok (.aload_n 0, 1) := by decide +kernel
theorem d_M_isFar_25 : decode b_M_isFar 25 = .ok (.getfield 17, 3) := by decide +kernel
theorem d_M_isFar_28 : decode b_M_isFar 28 = .ok (.bipush 10, 2) := by decide +kernel
theorem d_M_isFar_30 : decode b_M_isFar 30 = .ok (.iload_n 1, 1) := by decide +kernel
theorem d_M_isFar_31 : decode b_M_isFar 31 = .ok (.imul, 1) := by decide +kernel
theorem d_M_isFar_32 : decode b_M_isFar 32 = .ok (.iload_n 2, 1) := by decide +kernel
theorem d_M_isFar_33 : decode b_M_isFar 33 = .ok (.iadd, 1) := by decide +kernel
theorem d_M_isFar_34 : decode b_M_isFar 34 = .ok (.laload, 1) := by decide +kernel
theorem d_M_isFar_35 : decode b_M_isFar 35 = .ok (.lstore_n 3, 1) := by decide +kernel
theorem d_M_isFar_36 : decode b_M_isFar 36 = .ok (.iload_n 1, 1) := by decide +kernel
theorem d_M_isFar_37 : decode b_M_isFar 37 = .ok (.iload_n 2, 1) := by decide +kernel
theorem d_M_isFar_38 : decode b_M_isFar 38 = .ok (.if_icmp .ne 11, 3) := by decide +kernel
theorem d_M_isFar_41 : decode b_M_isFar 41 = .ok (.lload_n 3, 1) := by decide +kernel
theorem d_M_isFar_42 : decode b_M_isFar 42 = .ok (.ldc2_w 51, 3) := by decide +kernel
theorem d_M_isFar_45 : decode b_M_isFar 45 = .ok (.ldiv, 1) := by decide +kernel
theorem d_M_isFar_46 : decode b_M_isFar 46 = .ok (.goto 4, 3) := by decide +kernel
theorem d_M_isFar_49 : decode b_M_isFar 49 = .ok (.lload_n 3, 1) := by decide +kernel
theorem d_M_isFar_50 : decode b_M_isFar 50 = .ok (.lstore 5, 2) := by decide +kernel
theorem d_M_isFar_52 : decode b_M_isFar 52 = .ok (.iload_n 2, 1) := by decide +kernel
theorem d_M_isFar_53 : decode b_M_isFar 53 = .ok (.iload_n 1, 1) := by decide +kernel
theorem d_M_isFar_54 : decode b_M_isFar 54 = .ok (.invokestatic 53, 3) := by decide +kernel
theorem d_M_isFar_57 : decode b_M_isFar 57 = .ok (.if_icmp .eq 31, 3) := by decide +kernel
theorem d_M_isFar_60 : decode b_M_isFar 60 = .ok (.lload_n 3, 1) := by decide +kernel
theorem d_M_isFar_61 : decode b_M_isFar 61 = .ok (.ldc2_w 46, 3) := by decide +kernel
theorem d_M_isFar_64 : decode b_M_isFar 64 = .ok (.lcmp, 1) := by decide +kernel
theorem d_M_isFar_65 : decode b_M_isFar 65 = .ok (.ifCond .eq 23, 3) := by decide +kernel
theorem d_M_isFar_68 : decode b_M_isFar 68 = .ok (.lload 5, 2) := by decide +kernel
theorem d_M_isFar_70 : decode b_M_isFar 70 = .ok (.ldc2_w 65, 3) := by decide +kernel
theorem d_M_isFar_73 : decode b_M_isFar 73 = .ok (.lcmp, 1) := by decide +kernel
theorem d_M_isFar_74 : decode b_M_isFar 74 = .ok (.ifCond .gt 12, 3) := by decide +kernel
theorem d_M_isFar_77 : decode b_M_isFar 77 = .ok (.lload 5, 2) := by decide +kernel
theorem d_M_isFar_79 : decode b_M_isFar 79 = .ok (.ldc2_w 67, 3) := by decide +kernel
theorem d_M_isFar_82 : decode b_M_isFar 82 = .ok (.lcmp, 1) := by decide +kernel
theorem d_M_isFar_83 : decode b_M_isFar 83 = .ok (.ifCond .ge 5, 3) := by decide +kernel
theorem d_M_isFar_86 : decode b_M_isFar 86 = .ok (.iconst 1, 1) := by decide +kernel
theorem d_M_isFar_87 : decode b_M_isFar 87 = .ok (.ireturn, 1) := by decide +kernel
theorem d_M_isFar_88 : decode b_M_isFar 88 = .ok (.iinc 2 1, 3) := by decide +kernel
theorem d_M_isFar_91 : decode b_M_isFar 91 = .ok (.goto (-77), 3) := by decide +kernel
theorem d_M_isFar_94 : decode b_M_isFar 94 = .ok (.iinc 1 1, 3) := by decide +kernel
theorem d_M_isFar_97 : decode b_M_isFar 97 = .ok (.goto (-95), 3) := by decide +kernel
theorem d_M_isFar_100 : decode b_M_isFar 100 = .ok (.iconst 0, 1) := by decide +kernel
theorem d_M_isFar_101 : decode b_M_isFar 101 = .ok (.ireturn, 1) := by decide +kernel
theorem d_M_closeMade_0 : decode b_M_closeMade 0 = .ok (.iconst 0, 1) := by decide +kernel
theorem d_M_closeMade_1 : decode b_M_closeMade 1 = .ok (.istore_n 1, 1) := by decide +kernel
theorem d_M_closeMade_2 : decode b_M_closeMade 2 = .ok (.iload_n 1, 1) := by decide +kernel
theorem d_M_closeMade_3 : decode b_M_closeMade 3 = .ok (.iconst 2, 1) := by decide +kernel
theorem d_M_closeMade_4 : decode b_M_closeMade 4 = .ok (.aload_n 0, 1) := by decide +kernel
theorem d_M_closeMade_5 : decode b_M_closeMade 5 = .ok (.getfield 42, 3) := by decide +kernel
theorem d_M_closeMade_8 : decode b_M_closeMade 8 = .ok (.imul, 1) := by decide +kernel
theorem d_M_closeMade_9 : decode b_M_closeMade 9 = .ok (.if_icmp .ge 72, 3) := by decide +kernel
theorem d_M_closeMade_12 : decode b_M_closeMade 12 = .ok (.iconst 0, 1) := by decide +kernel
theorem d_M_closeMade_13 : decode b_M_closeMade 13 = .ok (.istore_n 2, 1) := by decide +kernel
theorem d_M_closeMade_14 : decode b_M_closeMade 14 = .ok (.iload_n 2, 1) := by decide +kernel
theorem d_M_closeMade_15 : decode b_M_closeMade 15 = .ok (.iconst 2, 1) := by decide +kernel
theorem d_M_closeMade_16 : decode b_M_closeMade 16 = .ok (.aload_n 0, 1) := by decide +kernel
theorem d_M_closeMade_17 : decode b_M_closeMade 17 = .ok (.getfield 42, 3) := by decide +kernel
theorem d_M_closeMade_20 : decode b_M_closeMade 20 = .ok (.imul, 1) := by decide +kernel
theorem d_M_closeMade_21 : decode b_M_closeMade 21 = .ok (.if_icmp .ge 54, 3) := by decide +kernel
theorem d_M_closeMade_24 : decode b_M_closeMade 24 = .ok (.aload_n 0, 1) := by decide +kernel
theorem d_M_closeMade_25 : decode b_M_closeMade 25 = .ok (.getfield 23, 3) := by decide +kernel
theorem d_M_closeMade_28 : decode b_M_closeMade 28 = .ok (.bipush 10, 2) := by decide +kernel
theorem d_M_closeMade_30 : decode b_M_closeMade 30 = .ok (.iload_n 1, 1) := by decide +kernel
theorem d_M_closeMade_31 : decode b_M_closeMade 31 = .ok (.imul, 1) := by decide +kernel
theorem d_M_closeMade_32 : decode b_M_closeMade 32 = .ok (.iload_n 2, 1) := by decide +kernel
theorem d_M_closeMade_33 : decode b_M_closeMade 33 = .ok (.iadd, 1) := by decide +kernel
theorem d_M_closeMade_34 : decode b_M_closeMade 34 = .ok (.laload, 1) := by decide +kernel
theorem d_M_closeMade_35 : decode b_M_closeMade 35 = .ok (.lstore_n 3, 1) := by decide +kernel
theorem d_M_closeMade_36 : decode b_M_closeMade 36 = .ok (.aload_n 0, 1) := by decide +kernel
theorem d_M_closeMade_37 : decode b_M_closeMade 37 = .ok (.getfield 17, 3) := by decide +kernel
theorem d_M_closeMade_40 : decode b_M_closeMade 40 = .ok (.bipush 10, 2) := by decide +kernel
theorem d_M_closeMade_42 : decode b_M_closeMade 42 = .ok (.iload_n 1, 1) := by decide +kernel
theorem d_M_closeMade_43 : decode b_M_closeMade 43 = .ok (.imul, 1) := by decide +kernel
theorem d_M_closeMade_44 : decode b_M_closeMade 44 = .ok (.iload_n 2, 1) := by decide +kernel
theorem d_M_closeMade_45 : decode b_M_closeMade 45 = .ok (.iadd, 1) := by decide +kernel
theorem d_M_closeMade_46 : decode b_M_closeMade 46 = .ok (.iload_n 1, 1) := by decide +kernel
theorem d_M_closeMade_47 : decode b_M_closeMade 47 = .ok (.iload_n 2, 1) := by decide +kernel
theorem d_M_closeMade_48 : decode b_M_closeMade 48 = .ok (.if_icmp .ne 19, 3) := by decide +kernel
theorem d_M_closeMade_51 : decode b_M_closeMade 51 = .ok (.lload_n 3, 1) := by decide +kernel
theorem d_M_closeMade_52 : decode b_M_closeMade 52 = .ok (.ldc2_w 46, 3) := by decide +kernel
theorem d_M_closeMade_55 : decode b_M_closeMade 55 = .ok (.lcmp, 1) := by decide +kernel
theorem d_M_closeMade_56 : decode b_M_closeMade 56 = .ok (.ifCond .eq 11, 3) := by decide +kernel
theorem d_M_closeMade_59 : decode b_M_closeMade 59 = .ok (.ldc2_w 51, 3) := by decide +kernel
theorem d_M_closeMade_62 : decode b_M_closeMade 62 = .ok (.lload_n 3, 1) := by decide +kernel
theorem d_M_closeMade_63 : decode b_M_closeMade 63 = .ok (.lmul, 1) := by decide +kernel
theorem d_M_closeMade_64 : decode b_M_closeMade 64 = .ok (.goto 4, 3) := by decide +kernel
theorem d_M_closeMade_67 : decode b_M_closeMade 67 = .ok (.lload_n 3, 1) := by decide +kernel
theorem d_M_closeMade_68 : decode b_M_closeMade 68 = .ok (.lastore, 1) := by decide +kernel
theorem d_M_closeMade_69 : decode b_M_closeMade 69 = .ok (.iinc 2 1, 3) := by decide +kernel
theorem d_M_closeMade_72 : decode b_M_closeMade 72 = .ok (.goto (-58), 3) := by decide +kernel
theorem d_M_closeMade_75 : decode b_M_closeMade 75 = .ok (.iinc 1 1, 3) := by decide +kernel
theorem d_M_closeMade_78 : decode b_M_closeMade 78 = .ok (.goto (-76), 3) := by decide +kernel
theorem d_M_closeMade_81 : decode b_M_closeMade 81 = .ok (.aload_n 0, 1) := by decide +kernel
theorem d_M_closeMade_82 : decode b_M_closeMade 82 = .ok (.invokevirtual 69, 3) := by decide +kernel
theorem d_M_closeMade_85 : decode b_M_closeMade 85 = .ok (.ireturn, 1) := by decide +kernel
theorem d_M_keepMade_0 : decode b_M_keepMade 0 = .ok (.aload_n 0, 1) := by decide +kernel
theorem d_M_keepMade_1 : decode b_M_keepMade 1 = .ok (.iload_n 1, 1) := by decide +kernel
theorem d_M_keepMade_2 : decode b_M_keepMade 2 = .ok (.invokevirtual 73, 3) := by decide +kernel
theorem d_M_keepMade_5 : decode b_M_keepMade 5 = .ok (.aload_n 0, 1) := by decide +kernel
theorem d_M_keepMade_6 : decode b_M_keepMade 6 = .ok (.getfield 13, 3) := by decide +kernel
theorem d_M_keepMade_9 : decode b_M_keepMade 9 = .ok (.iload_n 1, 1) := by decide +kernel
theorem d_M_keepMade_10 : decode b_M_keepMade 10 = .ok (.iconst 0, 1) := by decide +kernel
theorem d_M_keepMade_11 : decode b_M_keepMade 11 = .ok (.bastore, 1) := by decide +kernel
theorem d_M_keepMade_12 : decode b_M_keepMade 12 = .ok (.iconst 0, 1) := by decide +kernel
theorem d_M_keepMade_13 : decode b_M_keepMade 13 = .ok (.istore_n 2, 1) := by decide +kernel
theorem d_M_keepMade_14 : decode b_M_keepMade 14 = .ok (.iload_n 2, 1) := by decide +kernel
theorem d_M_keepMade_15 : decode b_M_keepMade 15 = .ok (.iconst 2, 1) := by decide +kernel
theorem d_M_keepMade_16 : decode b_M_keepMade 16 = .ok (.aload_n 0, 1) := by decide +kernel
theorem d_M_keepMade_17 : decode b_M_keepMade 17 = .ok (.getfield 42, 3) := by decide +kernel
theorem d_M_keepMade_20 : decode b_M_keepMade 20 = .ok (.imul, 1) := by decide +kernel
theorem d_M_keepMade_21 : decode b_M_keepMade 21 = .ok (.if_icmp .ge 54, 3) := by decide +kernel
theorem d_M_keepMade_24 : decode b_M_keepMade 24 = .ok (.iconst 0, 1) := by decide +kernel
theorem d_M_keepMade_25 : decode b_M_keepMade 25 = .ok (.istore_n 3, 1) := by decide +kernel
theorem d_M_keepMade_26 : decode b_M_keepMade 26 = .ok (.iload_n 3, 1) := by decide +kernel
theorem d_M_keepMade_27 : decode b_M_keepMade 27 = .ok (.iconst 2, 1) := by decide +kernel
theorem d_M_keepMade_28 : decode b_M_keepMade 28 = .ok (.aload_n 0, 1) := by decide +kernel
theorem d_M_keepMade_29 : decode b_M_keepMade 29 = .ok (.getfield 42, 3) := by decide +kernel
theorem d_M_keepMade_32 : decode b_M_keepMade 32 = .ok (.imul, 1) := by decide +kernel
theorem d_M_keepMade_33 : decode b_M_keepMade 33 = .ok (.if_icmp .ge 36, 3) := by decide +kernel
theorem d_M_keepMade_36 : decode b_M_keepMade 36 = .ok (.aload_n 0, 1) := by decide +kernel
theorem d_M_keepMade_37 : decode b_M_keepMade 37 = .ok (.getfield 7, 3) := by decide +kernel
theorem d_M_keepMade_40 : decode b_M_keepMade 40 = .ok (.bipush 100, 2) := by decide +kernel
theorem d_M_keepMade_42 : decode b_M_keepMade 42 = .ok (.iload_n 1, 1) := by decide +kernel
theorem d_M_keepMade_43 : decode b_M_keepMade 43 = .ok (.imul, 1) := by decide +kernel
theorem d_M_keepMade_44 : decode b_M_keepMade 44 = .ok (.bipush 10, 2) := by decide +kernel
theorem d_M_keepMade_46 : decode b_M_keepMade 46 = .ok (.iload_n 2, 1) := by decide +kernel
theorem d_M_keepMade_47 : decode b_M_keepMade 47 = .ok (.imul, 1) := by decide +kernel
theorem d_M_keepMade_48 : decode b_M_keepMade 48 = .ok (.iadd, 1) := by decide +kernel
theorem d_M_keepMade_49 : decode b_M_keepMade 49 = .ok (.iload_n 3, 1) := by decide +kernel
theorem d_M_keepMade_50 : decode b_M_keepMade 50 = .ok (.iadd, 1) := by decide +kernel
theorem d_M_keepMade_51 : decode b_M_keepMade 51 = .ok (.aload_n 0, 1) := by decide +kernel
theorem d_M_keepMade_52 : decode b_M_keepMade 52 = .ok (.getfield 23, 3) := by decide +kernel
theorem d_M_keepMade_55 : decode b_M_keepMade 55 = .ok (.bipush 10, 2) := by decide +kernel
theorem d_M_keepMade_57 : decode b_M_keepMade 57 = .ok (.iload_n 2, 1) := by decide +kernel
theorem d_M_keepMade_58 : decode b_M_keepMade 58 = .ok (.imul, 1) := by decide +kernel
theorem d_M_keepMade_59 : decode b_M_keepMade 59 = .ok (.iload_n 3, 1) := by decide +kernel
theorem d_M_keepMade_60 : decode b_M_keepMade 60 = .ok (.iadd, 1) := by decide +kernel
theorem d_M_keepMade_61 : decode b_M_keepMade 61 = .ok (.laload, 1) := by decide +kernel
theorem d_M_keepMade_62 : decode b_M_keepMade 62 = .ok (.lastore, 1) := by decide +kernel
theorem d_M_keepMade_63 : decode b_M_keepMade 63 = .ok (.iinc 3 1, 3) := by decide +kernel
theorem d_M_keepMade_66 : decode b_M_keepMade 66 = .ok (.goto (-40), 3) := by decide +kernel
theorem d_M_keepMade_69 : decode b_M_keepMade 69 = .ok (.iinc 2 1, 3) := by decide +kernel
theorem d_M_keepMade_72 : decode b_M_keepMade 72 = .ok (.goto (-58), 3) := by decide +kernel
theorem d_M_keepMade_75 : decode b_M_keepMade 75 = .ok (.return_, 1) := by decide +kernel
theorem d_M_closeShape_0 : decode b_M_closeShape 0 = .ok (.aload_n 0, 1) := by decide +kernel
theorem d_M_closeShape_1 : decode b_M_closeShape 1 = .ok (.getfield 13, 3) := by decide +kernel
theorem d_M_closeShape_4 : decode b_M_closeShape 4 = .ok (.iload_n 1, 1) := by decide +kernel
theorem d_M_closeShape_5 : decode b_M_closeShape 5 = .ok (.baload, 1) := by decide +kernel
theorem d_M_closeShape_6 : decode b_M_closeShape 6 = .ok (.ifCond .eq 5, 3) := by decide +kernel
theorem d_M_closeShape_9 : decode b_M_closeShape 9 = .ok (.iconst 0, 1) := by decide +kernel
theorem d_M_closeShape_10 : decode b_M_closeShape 10 = .ok (.ireturn, 1) := by decide +kernel
theorem d_M_closeShape_11 : decode b_M_closeShape 11 = .ok (.aload_n 0, 1) := by decide +kernel
theorem d_M_closeShape_12 : decode b_M_closeShape 12 = .ok (.iload_n 1, 1) := by decide +kernel
theorem d_M_closeShape_13 : decode b_M_closeShape 13 = .ok (.invokevirtual 77, 3) := by decide +kernel
theorem d_M_closeShape_16 : decode b_M_closeShape 16 = .ok (.aload_n 0, 1) := by decide +kernel
theorem d_M_closeShape_17 : decode b_M_closeShape 17 = .ok (.invokevirtual 69, 3) := by decide +kernel
theorem d_M_closeShape_20 : decode b_M_closeShape 20 = .ok (.ireturn, 1) := by decide +kernel
theorem d_M_copyTable_0 : decode b_M_copyTable 0 = .ok (.iconst 0, 1) := by decide +kernel
theorem d_M_copyTable_1 : decode b_M_copyTable 1 = .ok (.istore_n 2, 1) := by decide +kernel
theorem d_M_copyTable_2 : decode b_M_copyTable 2 = .ok (.iload_n 2, 1) := by decide +kernel
theorem d_M_copyTable_3 : decode b_M_copyTable 3 = .ok (.bipush 100, 2) := by decide +kernel
theorem d_M_copyTable_5 : decode b_M_copyTable 5 = .ok (.if_icmp .ge 40, 3) := by decide +kernel
theorem d_M_copyTable_8 : decode b_M_copyTable 8 = .ok (.iload_n 1, 1) := by decide +kernel
theorem d_M_copyTable_9 : decode b_M_copyTable 9 = .ok (.ifCond .eq 18, 3) := by decide +kernel
theorem d_M_copyTable_12 : decode b_M_copyTable 12 = .ok (.aload_n 0, 1) := by decide +kernel
theorem d_M_copyTable_13 : decode b_M_copyTable 13 = .ok (.getfield 20, 3) := by decide +kernel
theorem d_M_copyTable_16 : decode b_M_copyTable 16 = .ok (.iload_n 2, 1) := by decide +kernel
theorem d_M_copyTable_17 : decode b_M_copyTable 17 = .ok (.aload_n 0, 1) := by decide +kernel
theorem d_M_copyTable_18 : decode b_M_copyTable 18 = .ok (.getfield 17, 3) := by decide +kernel
theorem d_M_copyTable_21 : decode b_M_copyTable 21 = .ok (.iload_n 2, 1) := by decide +kernel
theorem d_M_copyTable_22 : decode b_M_copyTable 22 = .ok (.laload, 1) := by decide +kernel
theorem d_M_copyTable_23 : decode b_M_copyTable 23 = .ok (.lastore, 1) := by decide +kernel
theorem d_M_copyTable_24 : decode b_M_copyTable 24 = .ok (.goto 15, 3) := by decide +kernel
theorem d_M_copyTable_27 : decode b_M_copyTable 27 = .ok (.aload_n 0, 1) := by decide +kernel
theorem d_M_copyTable_28 : decode b_M_copyTable 28 = .ok (.getfield 17, 3) := by decide +kernel
theorem d_M_copyTable_31 : decode b_M_copyTable 31 = .ok (.iload_n 2, 1) := by decide +kernel
theorem d_M_copyTable_32 : decode b_M_copyTable 32 = .ok (.aload_n 0, 1) := by decide +kernel
theorem d_M_copyTable_33 : decode b_M_copyTable 33 = .ok (.getfield 20, 3) := by decide +kernel
theorem d_M_copyTable_36 : decode b_M_copyTable 36 = .ok (.iload_n 2, 1) := by decide +kernel
theorem d_M_copyTable_37 : decode b_M_copyTable 37 = .ok (.laload, 1) := by decide +kernel
theorem d_M_copyTable_38 : decode b_M_copyTable 38 = .ok (.lastore, 1) := by decide +kernel
theorem d_M_copyTable_39 : decode b_M_copyTable 39 = .ok (.iinc 2 1, 3) := by decide +kernel
theorem d_M_copyTable_42 : decode b_M_copyTable 42 = .ok (.goto (-40), 3) := by decide +kernel
theorem d_M_copyTable_45 : decode b_M_copyTable 45 = .ok (.return_, 1) := by decide +kernel
theorem d_M_none_0 : decode b_M_none 0 = .ok (.iconst 0, 1) := by decide +kernel
theorem d_M_none_1 : decode b_M_none 1 = .ok (.istore_n 2, 1) := by decide +kernel
theorem d_M_none_2 : decode b_M_none 2 = .ok (.iload_n 2, 1) := by decide +kernel
theorem d_M_none_3 : decode b_M_none 3 = .ok (.bipush 100, 2) := by decide +kernel
theorem d_M_none_5 : decode b_M_none 5 = .ok (.if_icmp .ge 23, 3) := by decide +kernel
theorem d_M_none_8 : decode b_M_none 8 = .ok (.aload_n 0, 1) := by decide +kernel
theorem d_M_none_9 : decode b_M_none 9 = .ok (.getfield 7, 3) := by decide +kernel
theorem d_M_none_12 : decode b_M_none 12 = .ok (.bipush 100, 2) := by decide +kernel
theorem d_M_none_14 : decode b_M_none 14 = .ok (.iload_n 1, 1) := by decide +kernel
theorem d_M_none_15 : decode b_M_none 15 = .ok (.imul, 1) := by decide +kernel
theorem d_M_none_16 : decode b_M_none 16 = .ok (.iload_n 2, 1) := by decide +kernel
theorem d_M_none_17 : decode b_M_none 17 = .ok (.iadd, 1) := by decide +kernel
theorem d_M_none_18 : decode b_M_none 18 = .ok (.ldc2_w 46, 3) := by decide +kernel
theorem d_M_none_21 : decode b_M_none 21 = .ok (.lastore, 1) := by decide +kernel
theorem d_M_none_22 : decode b_M_none 22 = .ok (.iinc 2 1, 3) := by decide +kernel
theorem d_M_none_25 : decode b_M_none 25 = .ok (.goto (-23), 3) := by decide +kernel
theorem d_M_none_28 : decode b_M_none 28 = .ok (.aload_n 0, 1) := by decide +kernel
theorem d_M_none_29 : decode b_M_none 29 = .ok (.getfield 13, 3) := by decide +kernel
theorem d_M_none_32 : decode b_M_none 32 = .ok (.iload_n 1, 1) := by decide +kernel
theorem d_M_none_33 : decode b_M_none 33 = .ok (.iconst 1, 1) := by decide +kernel
theorem d_M_none_34 : decode b_M_none 34 = .ok (.bastore, 1) := by decide +kernel
theorem d_M_none_35 : decode b_M_none 35 = .ok (.return_, 1) := by decide +kernel
theorem d_M_keepClosed_0 : decode b_M_keepClosed 0 = .ok (.aload_n 0, 1) := by decide +kernel
theorem d_M_keepClosed_1 : decode b_M_keepClosed 1 = .ok (.iload_n 1, 1) := by decide +kernel
theorem d_M_keepClosed_2 : decode b_M_keepClosed 2 = .ok (.invokevirtual 73, 3) := by decide +kernel
theorem d_M_keepClosed_5 : decode b_M_keepClosed 5 = .ok (.aload_n 0, 1) := by decide +kernel
theorem d_M_keepClosed_6 : decode b_M_keepClosed 6 = .ok (.getfield 13, 3) := by decide +kernel
theorem d_M_keepClosed_9 : decode b_M_keepClosed 9 = .ok (.iload_n 1, 1) := by decide +kernel
theorem d_M_keepClosed_10 : decode b_M_keepClosed 10 = .ok (.iload_n 2, 1) := by decide +kernel
theorem d_M_keepClosed_11 : decode b_M_keepClosed 11 = .ok (.ifCond .ne 7, 3) := by decide +kernel
theorem d_M_keepClosed_14 : decode b_M_keepClosed 14 = .ok (.iconst 1, 1) := by decide +kernel
theorem d_M_keepClosed_15 : decode b_M_keepClosed 15 = .ok (.goto 4, 3) := by decide +kernel
theorem d_M_keepClosed_18 : decode b_M_keepClosed 18 = .ok (.iconst 0, 1) := by decide +kernel
theorem d_M_keepClosed_19 : decode b_M_keepClosed 19 = .ok (.bastore, 1) := by decide +kernel
theorem d_M_keepClosed_20 : decode b_M_keepClosed 20 = .ok (.iconst 0, 1) := by decide +kernel
theorem d_M_keepClosed_21 : decode b_M_keepClosed 21 = .ok (.istore_n 3, 1) := by decide +kernel
theorem d_M_keepClosed_22 : decode b_M_keepClosed 22 = .ok (.iload_n 3, 1) := by decide +kernel
theorem d_M_keepClosed_23 : decode b_M_keepClosed 23 = .ok (.iconst 2, 1) := by decide +kernel
theorem d_M_keepClosed_24 : decode b_M_keepClosed 24 = .ok (.aload_n 0, 1) := by decide +kernel
theorem d_M_keepClosed_25 : decode b_M_keepClosed 25 = .ok (.getfield 42, 3) := by decide +kernel
theorem d_M_keepClosed_28 : decode b_M_keepClosed 28 = .ok (.imul, 1) := by decide +kernel
theorem d_M_keepClosed_29 : decode b_M_keepClosed 29 = .ok (.if_icmp .ge 99, 3) := by decide +kernel
theorem d_M_keepClosed_32 : decode b_M_keepClosed 32 = .ok (.iload_n 2, 1) := by decide +kernel
theorem d_M_keepClosed_33 : decode b_M_keepClosed 33 = .ok (.ifCond .eq 95, 3) := by decide +kernel
theorem d_M_keepClosed_36 : decode b_M_keepClosed 36 = .ok (.iconst 0, 1) := by decide +kernel
theorem d_M_keepClosed_37 : decode b_M_keepClosed 37 = .ok (.istore 4, 2) := by decide +kernel
theorem d_M_keepClosed_39 : decode b_M_keepClosed 39 = .ok (.iload 4, 2) := by decide +kernel
theorem d_M_keepClosed_41 : decode b_M_keepClosed 41 = .ok (.iconst 2, 1) := by decide +kernel
theorem d_M_keepClosed_42 : decode b_M_keepClosed 42 = .ok (.aload_n 0, 1) := by decide +kernel
theorem d_M_keepClosed_43 : decode b_M_keepClosed 43 = .ok (.getfield 42, 3) := by decide +kernel
theorem d_M_keepClosed_46 : decode b_M_keepClosed 46 = .ok (.imul, 1) := by decide +kernel
theorem d_M_keepClosed_47 : decode b_M_keepClosed 47 = .ok (.if_icmp .ge 75, 3) := by decide +kernel
theorem d_M_keepClosed_50 : decode b_M_keepClosed 50 = .ok (.iload 4, 2) := by decide +kernel
theorem d_M_keepClosed_52 : decode b_M_keepClosed 52 = .ok (.iload_n 3, 1) := by decide +kernel
theorem d_M_keepClosed_53 : decode b_M_keepClosed 53 = .ok (.invokestatic 53, 3) := by decide +kernel
theorem d_M_keepClosed_56 : decode b_M_keepClosed 56 = .ok (.if_icmp .eq 60, 3) := by decide +kernel
theorem d_M_keepClosed_59 : decode b_M_keepClosed 59 = .ok (.aload_n 0, 1) := by decide +kernel
theorem d_M_keepClosed_60 : decode b_M_keepClosed 60 = .ok (.getfield 17, 3) := by decide +kernel
theorem d_M_keepClosed_63 : decode b_M_keepClosed 63 = .ok (.bipush 10, 2) := by decide +kernel
theorem d_M_keepClosed_65 : decode b_M_keepClosed 65 = .ok (.iload_n 3, 1) := by decide +kernel
theorem d_M_keepClosed_66 : decode b_M_keepClosed 66 = .ok (.imul, 1) := by decide +kernel
theorem d_M_keepClosed_67 : decode b_M_keepClosed 67 = .ok (.iload 4, 2) := by decide +kernel
theorem d_M_keepClosed_69 : decode b_M_keepClosed 69 = .ok (.iadd, 1) := by decide +kernel
theorem d_M_keepClosed_70 : decode b_M_keepClosed 70 = .ok (.laload, 1) := by decide +kernel
theorem d_M_keepClosed_71 : decode b_M_keepClosed 71 = .ok (.lstore 5, 2) := by decide +kernel
theorem d_M_keepClosed_73 : decode b_M_keepClosed 73 = .ok (.aload_n 0, 1) := by decide +kernel
theorem d_M_keepClosed_74 : decode b_M_keepClosed 74 = .ok (.getfield 7, 3) := by decide +kernel
theorem d_M_keepClosed_77 : decode b_M_keepClosed 77 = .ok (.bipush 100, 2) := by decide +kernel
theorem d_M_keepClosed_79 : decode b_M_keepClosed 79 = .ok (.iload_n 1, 1) := by decide +kernel
theorem d_M_keepClosed_80 : decode b_M_keepClosed 80 = .ok (.imul, 1) := by decide +kernel
theorem d_M_keepClosed_81 : decode b_M_keepClosed 81 = .ok (.bipush 10, 2) := by decide +kernel
theorem d_M_keepClosed_83 : decode b_M_keepClosed 83 = .ok (.iload_n 3, 1) := by decide +kernel
theorem d_M_keepClosed_84 : decode b_M_keepClosed 84 = .ok (.imul, 1) := by decide +kernel
theorem d_M_keepClosed_85 : decode b_M_keepClosed 85 = .ok (.iadd, 1) := by decide +kernel
theorem d_M_keepClosed_86 : decode b_M_keepClosed 86 = .ok (.iload 4, 2) := by decide +kernel
theorem d_M_keepClosed_88 : decode b_M_keepClosed 88 = .ok (.iadd, 1) := by decide +kernel
theorem d_M_keepClosed_89 : decode b_M_keepClosed 89 = .ok (.iload_n 3, 1) := by decide +kernel
theorem d_M_keepClosed_90 : decode b_M_keepClosed 90 = .ok (.iload 4, 2) := by decide +kernel
theorem d_M_keepClosed_92 : decode b_M_keepClosed 92 = .ok (.if_icmp .ne 21, 3) := by decide +kernel
theorem d_M_keepClosed_95 : decode b_M_keepClosed 95 = .ok (.lload 5, 2) := by decide +kernel
theorem d_M_keepClosed_97 : decode b_M_keepClosed 97 = .ok (.ldc2_w 46, 3) := by decide +kernel
theorem d_M_keepClosed_100 : decode b_M_keepClosed 100 = .ok (.lcmp, 1) := by decide +kernel
theorem d_M_keepClosed_101 : decode b_M_keepClosed 101 = .ok (.ifCond .eq 12, 3) := by decide +kernel
theorem d_M_keepClosed_104 : decode b_M_keepClosed 104 = .ok (.lload 5, 2) := by decide +kernel
theorem d_M_keepClosed_106 : decode b_M_keepClosed 106 = .ok (.ldc2_w 51, 3) := by decide +kernel
theorem d_M_keepClosed_109 : decode b_M_keepClosed 109 = .ok (.ldiv, 1) := by decide +kernel
theorem d_M_keepClosed_110 : decode b_M_keepClosed 110 = .ok (.goto 5, 3) := by decide +kernel
theorem d_M_keepClosed_113 : decode b_M_keepClosed 113 = .ok (.lload 5, 2) := by decide +kernel
theorem d_M_keepClosed_115 : decode b_M_keepClosed 115 = .ok (.lastore, 1) := by decide +kernel
theorem d_M_keepClosed_116 : decode b_M_keepClosed 116 = .ok (.iinc 4 1, 3) := by decide +kernel
theorem d_M_keepClosed_119 : decode b_M_keepClosed 119 = .ok (.goto (-80), 3) := by decide +kernel
theorem d_M_keepClosed_122 : decode b_M_keepClosed 122 = .ok (.iinc 3 1, 3) := by decide +kernel
theorem d_M_keepClosed_125 : decode b_M_keepClosed 125 = .ok (.goto (-103), 3) := by decide +kernel
theorem d_M_keepClosed_128 : decode b_M_keepClosed 128 = .ok (.iload_n 2, 1) := by decide +kernel
theorem d_M_keepClosed_129 : decode b_M_keepClosed 129 = .ok (.ifCond .eq 7, 3) := by decide +kernel
theorem d_M_keepClosed_132 : decode b_M_keepClosed 132 = .ok (.iconst 1, 1) := by decide +kernel
theorem d_M_keepClosed_133 : decode b_M_keepClosed 133 = .ok (.goto 4, 3) := by decide +kernel
theorem d_M_keepClosed_136 : decode b_M_keepClosed 136 = .ok (.iconst 0, 1) := by decide +kernel
theorem d_M_keepClosed_137 : decode b_M_keepClosed 137 = .ok (.ireturn, 1) := by decide +kernel
theorem d_M_addRow_0 : decode b_M_addRow 0 = .ok (.iload_n 1, 1) := by decide +kernel
theorem d_M_addRow_1 : decode b_M_addRow 1 = .ok (.ifCond .ne 48, 3) := by decide +kernel
theorem d_M_addRow_4 : decode b_M_addRow 4 = .ok (.iload_n 2, 1) := by decide +kernel
theorem d_M_addRow_5 : decode b_M_addRow 5 = .ok (.ifCond .ne 44, 3) := by decide +kernel
theorem d_M_addRow_8 : decode b_M_addRow 8 = .ok (.aload_n 0, 1) := by decide +kernel
theorem d_M_addRow_9 : decode b_M_addRow 9 = .ok (.getfield 17, 3) := by decide +kernel
theorem d_M_addRow_12 : decode b_M_addRow 12 = .ok (.iconst 1, 1) := by decide +kernel
theorem d_M_addRow_13 : decode b_M_addRow 13 = .ok (.lload_n 3, 1) := by decide +kernel
theorem d_M_addRow_14 : decode b_M_addRow 14 = .ok (.aload_n 0, 1) := by decide +kernel
theorem d_M_addRow_15 : decode b_M_addRow 15 = .ok (.getfield 17, 3) := by decide +kernel
theorem d_M_addRow_18 : decode b_M_addRow 18 = .ok (.iconst 1, 1) := by decide +kernel
theorem d_M_addRow_19 : decode b_M_addRow 19 = .ok (.laload, 1) := by decide +kernel
theorem d_M_addRow_20 : decode b_M_addRow 20 = .ok (.lcmp, 1) := by decide +kernel
theorem d_M_addRow_21 : decode b_M_addRow 21 = .ok (.ifCond .ge 7, 3) := by decide +kernel
theorem d_M_addRow_24 : decode b_M_addRow 24 = .ok (.lload_n 3, 1) := by decide +kernel
theorem d_M_addRow_25 : decode b_M_addRow 25 = .ok (.goto 9, 3) := by decide +kernel
theorem d_M_addRow_28 : decode b_M_addRow 28 = .ok (.aload_n 0, 1) := by decide +kernel
theorem d_M_addRow_29 : decode b_M_addRow 29 = .ok (.getfield 17, 3) := by decide +kernel
theorem d_M_addRow_32 : decode b_M_addRow 32 = .ok (.iconst 1, 1) := by decide +kernel
theorem d_M_addRow_33 : decode b_M_addRow 33 = .ok (.laload, 1) := by decide +kernel
theorem d_M_addRow_34 : decode b_M_addRow 34 = .ok (.lastore, 1) := by decide +kernel
theorem d_M_addRow_35 : decode b_M_addRow 35 = .ok (.aload_n 0, 1) := by decide +kernel
theorem d_M_addRow_36 : decode b_M_addRow 36 = .ok (.getfield 17, 3) := by decide +kernel
theorem d_M_addRow_39 : decode b_M_addRow 39 = .ok (.bipush 10, 2) := by decide +kernel
theorem d_M_addRow_41 : decode b_M_addRow 41 = .ok (.aload_n 0, 1) := by decide +kernel
theorem d_M_addRow_42 : decode b_M_addRow 42 = .ok (.getfield 17, 3) := by decide +kernel
theorem d_M_addRow_45 : decode b_M_addRow 45 = .ok (.iconst 1, 1) := by decide +kernel
theorem d_M_addRow_46 : decode b_M_addRow 46 = .ok (.laload, 1) := by decide +kernel
theorem d_M_addRow_47 : decode b_M_addRow 47 = .ok (.lastore, 1) := by decide +kernel
theorem d_M_addRow_48 : decode b_M_addRow 48 = .ok (.return_, 1) := by decide +kernel
theorem d_M_addRow_49 : decode b_M_addRow 49 = .ok (.iload_n 1, 1) := by decide +kernel
theorem d_M_addRow_50 : decode b_M_addRow 50 = .ok (.ifCond .ne 7, 3) := by decide +kernel
theorem d_M_addRow_53 : decode b_M_addRow 53 = .ok (.iload_n 2, 1) := by decide +kernel
theorem d_M_addRow_54 : decode b_M_addRow 54 = .ok (.goto 4, 3) := by decide +kernel
theorem d_M_addRow_57 : decode b_M_addRow 57 = .ok (.iload_n 1, 1) := by decide +kernel
theorem d_M_addRow_58 : decode b_M_addRow 58 = .ok (.invokestatic 80, 3) := by decide +kernel
theorem d_M_addRow_61 : decode b_M_addRow 61 = .ok (.istore 5, 2) := by decide +kernel
theorem d_M_addRow_63 : decode b_M_addRow 63 = .ok (.iload_n 2, 1) := by decide +kernel
theorem d_M_addRow_64 : decode b_M_addRow 64 = .ok (.ifCond .ne 7, 3) := by decide +kernel
theorem d_M_addRow_67 : decode b_M_addRow 67 = .ok (.iload_n 1, 1) := by decide +kernel
theorem d_M_addRow_68 : decode b_M_addRow 68 = .ok (.goto 4, 3) := by decide +kernel
theorem d_M_addRow_71 : decode b_M_addRow 71 = .ok (.iload_n 2, 1) := by decide +kernel
theorem d_M_addRow_72 : decode b_M_addRow 72 = .ok (.invokestatic 80, 3) := by decide +kernel
theorem d_M_addRow_75 : decode b_M_addRow 75 = .ok (.istore 6, 2) := by decide +kernel
theorem d_M_addRow_77 : decode b_M_addRow 77 = .ok (.iload_n 1, 1) := by decide +kernel
theorem d_M_addRow_78 : decode b_M_addRow 78 = .ok (.ifCond .eq 7, 3) := by decide +kernel
theorem d_M_addRow_81 : decode b_M_addRow 81 = .ok (.iload_n 2, 1) := by decide +kernel
theorem d_M_addRow_82 : decode b_M_addRow 82 = .ok (.ifCond .ne 11, 3) := by decide +kernel
theorem d_M_addRow_85 : decode b_M_addRow 85 = .ok (.ldc2_w 51, 3) := by decide +kernel
theorem d_M_addRow_88 : decode b_M_addRow 88 = .ok (.lload_n 3, 1) := by decide +kernel
theorem d_M_addRow_89 : decode b_M_addRow 89 = .ok (.lmul, 1) := by decide +kernel
theorem d_M_addRow_90 : decode b_M_addRow 90 = .ok (.goto 4, 3) := by decide +kernel
theorem d_M_addRow_93 : decode b_M_addRow 93 = .ok (.lload_n 3, 1) := by decide +kernel
theorem d_M_addRow_94 : decode b_M_addRow 94 = .ok (.lstore 7, 2) := by decide +kernel
theorem d_M_addRow_96 : decode b_M_addRow 96 = .ok (.lload 7, 2) := by decide +kernel
theorem d_M_addRow_98 : decode b_M_addRow 98 = .ok (.aload_n 0, 1) := by decide +kernel
theorem d_M_addRow_99 : decode b_M_addRow 99 = .ok (.getfield 17, 3) := by decide +kernel
theorem d_M_addRow_102 : decode b_M_addRow 102 = .ok (.bipush 10, 2) := by decide +kernel
theorem d_M_addRow_104 : decode b_M_addRow 104 = .ok (.iload 5, 2) := by decide +kernel
theorem d_M_addRow_106 : decode b_M_addRow 106 = .ok (.imul, 1) := by decide +kernel
theorem d_M_addRow_107 : decode b_M_addRow 107 = .ok (.iload 6, 2) := by decide +kernel
theorem d_M_addRow_109 : decode b_M_addRow 109 = .ok (.iadd, 1) := by decide +kernel
theorem d_M_addRow_110 : decode b_M_addRow 110 = .ok (.laload, 1) := by decide +kernel
theorem d_M_addRow_111 : decode b_M_addRow 111 = .ok (.lcmp, 1) := by decide +kernel
theorem d_M_addRow_112 : decode b_M_addRow 112 = .ok (.ifCond .ge 33, 3) := by decide +kernel
theorem d_M_addRow_115 : decode b_M_addRow 115 = .ok (.aload_n 0, 1) := by decide +kernel
theorem d_M_addRow_116 : decode b_M_addRow 116 = .ok (.getfield 17, 3) := by decide +kernel
theorem d_M_addRow_119 : decode b_M_addRow 119 = .ok (.bipush 10, 2) := by decide +kernel
theorem d_M_addRow_121 : decode b_M_addRow 121 = .ok (.iload 5, 2) := by decide +kernel
theorem d_M_addRow_123 : decode b_M_addRow 123 = .ok (.imul, 1) := by decide +kernel
theorem d_M_addRow_124 : decode b_M_addRow 124 = .ok (.iload 6, 2) := by decide +kernel
theorem d_M_addRow_126 : decode b_M_addRow 126 = .ok (.iadd, 1) := by decide +kernel
theorem d_M_addRow_127 : decode b_M_addRow 127 = .ok (.lload 7, 2) := by decide +kernel
theorem d_M_addRow_129 : decode b_M_addRow 129 = .ok (.lastore, 1) := by decide +kernel
theorem d_M_addRow_130 : decode b_M_addRow 130 = .ok (.aload_n 0, 1) := by decide +kernel
theorem d_M_addRow_131 : decode b_M_addRow 131 = .ok (.getfield 17, 3) := by decide +kernel
theorem d_M_addRow_134 : decode b_M_addRow 134 = .ok (.bipush 10, 2) := by decide +kernel
theorem d_M_addRow_136 : decode b_M_addRow 136 = .ok (.iload 6, 2) := by decide +kernel
theorem d_M_addRow_138 : decode b_M_addRow 138 = .ok (.imul, 1) := by decide +kernel
theorem d_M_addRow_139 : decode b_M_addRow 139 = .ok (.iload 5, 2) := by decide +kernel
theorem d_M_addRow_141 : decode b_M_addRow 141 = .ok (.iadd, 1) := by decide +kernel
theorem d_M_addRow_142 : decode b_M_addRow 142 = .ok (.lload 7, 2) := by decide +kernel
theorem d_M_addRow_144 : decode b_M_addRow 144 = .ok (.lastore, 1) := by decide +kernel
theorem d_M_addRow_145 : decode b_M_addRow 145 = .ok (.return_, 1) := by decide +kernel
theorem d_M_boundOf_0 : decode b_M_boundOf 0 = .ok (.iload_n 1, 1) := by decide +kernel
theorem d_M_boundOf_1 : decode b_M_boundOf 1 = .ok (.ifCond .ne 7, 3) := by decide +kernel
theorem d_M_boundOf_4 : decode b_M_boundOf 4 = .ok (.iload_n 2, 1) := by decide +kernel
theorem d_M_boundOf_5 : decode b_M_boundOf 5 = .ok (.ifCond .eq 9, 3) := by decide +kernel
theorem d_M_boundOf_8 : decode b_M_boundOf 8 = .ok (.iload_n 1, 1) := by decide +kernel
theorem d_M_boundOf_9 : decode b_M_boundOf 9 = .ok (.iload_n 2, 1) := by decide +kernel
theorem d_M_boundOf_10 : decode b_M_boundOf 10 = .ok (.ineg, 1) := by decide +kernel
theorem d_M_boundOf_11 : decode b_M_boundOf 11 = .ok (.if_icmp .ne 5, 3) := by decide +kernel
theorem d_M_boundOf_14 : decode b_M_boundOf 14 = .ok (.lconst 0, 1) := by decide +kernel
theorem d_M_boundOf_15 : decode b_M_boundOf 15 = .ok (.lreturn, 1) := by decide +kernel
theorem d_M_boundOf_16 : decode b_M_boundOf 16 = .ok (.iload_n 1, 1) := by decide +kernel
theorem d_M_boundOf_17 : decode b_M_boundOf 17 = .ok (.ifCond .eq 7, 3) := by decide +kernel
theorem d_M_boundOf_20 : decode b_M_boundOf 20 = .ok (.iload_n 2, 1) := by decide +kernel
theorem d_M_boundOf_21 : decode b_M_boundOf 21 = .ok (.ifCond .ne 44, 3) := by decide +kernel
theorem d_M_boundOf_24 : decode b_M_boundOf 24 = .ok (.aload_n 0, 1) := by decide +kernel
theorem d_M_boundOf_25 : decode b_M_boundOf 25 = .ok (.getfield 17, 3) := by decide +kernel
theorem d_M_boundOf_28 : decode b_M_boundOf 28 = .ok (.bipush 11, 2) := by decide +kernel
theorem d_M_boundOf_30 : decode b_M_boundOf 30 = .ok (.iload_n 1, 1) := by decide +kernel
theorem d_M_boundOf_31 : decode b_M_boundOf 31 = .ok (.ifCond .ne 7, 3) := by decide +kernel
theorem d_M_boundOf_34 : decode b_M_boundOf 34 = .ok (.iload_n 2, 1) := by decide +kernel
theorem d_M_boundOf_35 : decode b_M_boundOf 35 = .ok (.goto 4, 3) := by decide +kernel
theorem d_M_boundOf_38 : decode b_M_boundOf 38 = .ok (.iload_n 1, 1) := by decide +kernel
theorem d_M_boundOf_39 : decode b_M_boundOf 39 = .ok (.invokestatic 80, 3) := by decide +kernel
theorem d_M_boundOf_42 : decode b_M_boundOf 42 = .ok (.imul, 1) := by decide +kernel
theorem d_M_boundOf_43 : decode b_M_boundOf 43 = .ok (.laload, 1) := by decide +kernel
theorem d_M_boundOf_44 : decode b_M_boundOf 44 = .ok (.lstore_n 3, 1) := by decide +kernel
theorem d_M_boundOf_45 : decode b_M_boundOf 45 = .ok (.lload_n 3, 1) := by decide +kernel
theorem d_M_boundOf_46 : decode b_M_boundOf 46 = .ok (.ldc2_w 46, 3) := by decide +kernel
theorem d_M_boundOf_49 : decode b_M_boundOf 49 = .ok (.lcmp, 1) := by decide +kernel
theorem d_M_boundOf_50 : decode b_M_boundOf 50 = .ok (.ifCond .ne 9, 3) := by decide +kernel
theorem d_M_boundOf_53 : decode b_M_boundOf 53 = .ok (.ldc2_w 46, 3) := by decide +kernel
theorem d_M_boundOf_56 : decode b_M_boundOf 56 = .ok (.goto 8, 3) := by decide +kernel
theorem d_M_boundOf_59 : decode b_M_boundOf 59 = .ok (.lload_n 3, 1) := by decide +kernel
theorem d_M_boundOf_60 : decode b_M_boundOf 60 = .ok (.ldc2_w 51, 3) := by decide +kernel
theorem d_M_boundOf_63 : decode b_M_boundOf 63 = .ok (.ldiv, 1) := by decide +kernel
theorem d_M_boundOf_64 : decode b_M_boundOf 64 = .ok (.lreturn, 1) := by decide +kernel
theorem d_M_boundOf_65 : decode b_M_boundOf 65 = .ok (.aload_n 0, 1) := by decide +kernel
theorem d_M_boundOf_66 : decode b_M_boundOf 66 = .ok (.getfield 17, 3) := by decide +kernel
theorem d_M_boundOf_69 : decode b_M_boundOf 69 = .ok (.bipush 10, 2) := by decide +kernel
theorem d_M_boundOf_71 : decode b_M_boundOf 71 = .ok (.iload_n 1, 1) := by decide +kernel
theorem d_M_boundOf_72 : decode b_M_boundOf 72 = .ok (.invokestatic 80, 3) := by decide +kernel
theorem d_M_boundOf_75 : decode b_M_boundOf 75 = .ok (.imul, 1) := by decide +kernel
theorem d_M_boundOf_76 : decode b_M_boundOf 76 = .ok (.iload_n 2, 1) := by decide +kernel
theorem d_M_boundOf_77 : decode b_M_boundOf 77 = .ok (.invokestatic 80, 3) := by decide +kernel
theorem d_M_boundOf_80 : decode b_M_boundOf 80 = .ok (.iadd, 1) := by decide +kernel
theorem d_M_boundOf_81 : decode b_M_boundOf 81 = .ok (.laload, 1) := by decide +kernel
theorem d_M_boundOf_82 : decode b_M_boundOf 82 = .ok (.lreturn, 1) := by decide +kernel
theorem d_M_all_0 : decode b_M_all 0 = .ok (.aload_n 0, 1) := by decide +kernel
theorem d_M_all_1 : decode b_M_all 1 = .ok (.aload_n 0, 1) := by decide +kernel
theorem d_M_all_2 : decode b_M_all 2 = .ok (.iload_n 1, 1) := by decide +kernel
theorem d_M_all_3 : decode b_M_all 3 = .ok (.invokevirtual 83, 3) := by decide +kernel
theorem d_M_all_6 : decode b_M_all 6 = .ok (.ifCond .eq 7, 3) := by decide +kernel
theorem d_M_all_9 : decode b_M_all 9 = .ok (.iconst 0, 1) := by decide +kernel
theorem d_M_all_10 : decode b_M_all 10 = .ok (.goto 4, 3) := by decide +kernel
theorem d_M_all_13 : decode b_M_all 13 = .ok (.iconst 1, 1) := by decide +kernel
theorem d_M_all_14 : decode b_M_all 14 = .ok (.putfield 48, 3) := by decide +kernel
theorem d_M_all_17 : decode b_M_all 17 = .ok (.aload_n 0, 1) := by decide +kernel
theorem d_M_all_18 : decode b_M_all 18 = .ok (.getfield 48, 3) := by decide +kernel
theorem d_M_all_21 : decode b_M_all 21 = .ok (.ifCond .ne 15, 3) := by decide +kernel
theorem d_M_all_24 : decode b_M_all 24 = .ok (.aload_n 0, 1) := by decide +kernel
theorem d_M_all_25 : decode b_M_all 25 = .ok (.iload_n 1, 1) := by decide +kernel
theorem d_M_all_26 : decode b_M_all 26 = .ok (.invokevirtual 73, 3) := by decide +kernel
theorem d_M_all_29 : decode b_M_all 29 = .ok (.aload_n 0, 1) := by decide +kernel
theorem d_M_all_30 : decode b_M_all 30 = .ok (.getfield 13, 3) := by decide +kernel
theorem d_M_all_33 : decode b_M_all 33 = .ok (.iload_n 1, 1) := by decide +kernel
theorem d_M_all_34 : decode b_M_all 34 = .ok (.iconst 0, 1) := by decide +kernel
theorem d_M_all_35 : decode b_M_all 35 = .ok (.bastore, 1) := by decide +kernel
theorem d_M_all_36 : decode b_M_all 36 = .ok (.return_, 1) := by decide +kernel
theorem d_M_isSmall_0 : decode b_M_isSmall 0 = .ok (.lload_n 0, 1) := by decide +kernel
theorem d_M_isSmall_1 : decode b_M_isSmall 1 = .ok (.ldc2_w 87, 3) := by decide +kernel
theorem d_M_isSmall_4 : decode b_M_isSmall 4 = .ok (.lcmp, 1) := by decide +kernel
theorem d_M_isSmall_5 : decode b_M_isSmall 5 = .ok (.ifCond .lt 15, 3) := by decide +kernel
theorem d_M_isSmall_8 : decode b_M_isSmall 8 = .ok (.lload_n 0, 1) := by decide +kernel
theorem d_M_isSmall_9 : decode b_M_isSmall 9 = .ok (.ldc2_w 89, 3) := by decide +kernel
theorem d_M_isSmall_12 : decode b_M_isSmall 12 = .ok (.lcmp, 1) := by decide +kernel
theorem d_M_isSmall_13 : decode b_M_isSmall 13 = .ok (.ifCond .gt 7, 3) := by decide +kernel
theorem d_M_isSmall_16 : decode b_M_isSmall 16 = .ok (.iconst 1, 1) := by decide +kernel
theorem d_M_isSmall_17 : decode b_M_isSmall 17 = .ok (.goto 4, 3) := by decide +kernel
theorem d_M_isSmall_20 : decode b_M_isSmall 20 = .ok (.iconst 0, 1) := by decide +kernel
theorem d_M_isSmall_21 : decode b_M_isSmall 21 = .ok (.ireturn, 1) := by decide +kernel
theorem d_M_row_0 : decode b_M_row 0 = .ok (.aload_n 0, 1) := by decide +kernel
theorem d_M_row_1 : decode b_M_row 1 = .ok (.aload_n 0, 1) := by decide +kernel
theorem d_M_row_2 : decode b_M_row 2 = .ok (.iload_n 1, 1) := by decide +kernel
theorem d_M_row_3 : decode b_M_row 3 = .ok (.invokevirtual 83, 3) := by decide +kernel
theorem d_M_row_6 : decode b_M_row 6 = .ok (.ifCond .eq 19, 3) := by decide +kernel
theorem d_M_row_9 : decode b_M_row 9 = .ok (.aload_n 0, 1) := by decide +kernel
theorem d_M_row_10 : decode b_M_row 10 = .ok (.iload_n 2, 1) := by decide +kernel
theorem d_M_row_11 : decode b_M_row 11 = .ok (.invokevirtual 91, 3) := by decide +kernel
theorem d_M_row_14 : decode b_M_row 14 = .ok (.ifCond .eq 11, 3) := by decide +kernel
theorem d_M_row_17 : decode b_M_row 17 = .ok (.aload_n 0, 1) := by decide +kernel
theorem d_M_row_18 : decode b_M_row 18 = .ok (.iload_n 3, 1) := by decide +kernel
theorem d_M_row_19 : decode b_M_row 19 = .ok (.invokevirtual 91, 3) := by decide +kernel
theorem d_M_row_22 : decode b_M_row 22 = .ok (.ifCond .ne 7, 3) := by decide +kernel
theorem d_M_row_25 : decode b_M_row 25 = .ok (.iconst 1, 1) := by decide +kernel
theorem d_M_row_26 : decode b_M_row 26 = .ok (.goto 16, 3) := by decide +kernel
theorem d_M_row_29 : decode b_M_row 29 = .ok (.lload 4, 2) := by decide +kernel
theorem d_M_row_31 : decode b_M_row 31 = .ok (.invokestatic 94, 3) := by decide +kernel
theorem d_M_row_34 : decode b_M_row 34 = .ok (.ifCond .ne 7, 3) := by decide +kernel
theorem d_M_row_37 : decode b_M_row 37 = .ok (.iconst 2, 1) := by decide +kernel
theorem d_M_row_38 : decode b_M_row 38 = .ok (.goto 4, 3) := by decide +kernel
theorem d_M_row_41 : decode b_M_row 41 = .ok (.iconst 0, 1) := by decide +kernel
theorem d_M_row_42 : decode b_M_row 42 = .ok (.putfield 48, 3) := by decide +kernel
theorem d_M_row_45 : decode b_M_row 45 = .ok (.aload_n 0, 1) := by decide +kernel
theorem d_M_row_46 : decode b_M_row 46 = .ok (.getfield 48, 3) := by decide +kernel
theorem d_M_row_49 : decode b_M_row 49 = .ok (.ifCond .gt 12, 3) := by decide +kernel
theorem d_M_row_52 : decode b_M_row 52 = .ok (.aload_n 0, 1) := by decide +kernel
theorem d_M_row_53 : decode b_M_row 53 = .ok (.getfield 13, 3) := by decide +kernel
theorem d_M_row_56 : decode b_M_row 56 = .ok (.iload_n 1, 1) := by decide +kernel
theorem d_M_row_57 : decode b_M_row 57 = .ok (.baload, 1) := by decide +kernel
theorem d_M_row_58 : decode b_M_row 58 = .ok (.ifCond .eq 5, 3) := by decide +kernel
theorem d_M_row_61 : decode b_M_row 61 = .ok (.iconst 0, 1) := by decide +kernel
theorem d_M_row_62 : decode b_M_row 62 = .ok (.ireturn, 1) := by decide +kernel
theorem d_M_row_63 : decode b_M_row 63 = .ok (.iload_n 2, 1) := by decide +kernel
theorem d_M_row_64 : decode b_M_row 64 = .ok (.iload_n 3, 1) := by decide +kernel
theorem d_M_row_65 : decode b_M_row 65 = .ok (.ineg, 1) := by decide +kernel
theorem d_M_row_66 : decode b_M_row 66 = .ok (.if_icmp .ne 30, 3) := by decide +kernel
theorem d_M_row_69 : decode b_M_row 69 = .ok (.lload 4, 2) := by decide +kernel
theorem d_M_row_71 : decode b_M_row 71 = .ok (.lconst 0, 1) := by decide +kernel
theorem d_M_row_72 : decode b_M_row 72 = .ok (.lcmp, 1) := by decide +kernel
theorem d_M_row_73 : decode b_M_row 73 = .ok (.ifCond .ge 8, 3) := by decide +kernel
theorem d_M_row_76 : decode b_M_row 76 = .ok (.aload_n 0, 1) := by decide +kernel
theorem d_M_row_77 : decode b_M_row 77 = .ok (.iload_n 1, 1) := by decide +kernel
theorem d_M_row_78 : decode b_M_row 78 = .ok (.invokevirtual 73, 3) := by decide +kernel
theorem d_M_row_81 : decode b_M_row 81 = .ok (.aload_n 0, 1) := by decide +kernel
theorem d_M_row_82 : decode b_M_row 82 = .ok (.getfield 13, 3) := by decide +kernel
theorem d_M_row_85 : decode b_M_row 85 = .ok (.iload_n 1, 1) := by decide +kernel
theorem d_M_row_86 : decode b_M_row 86 = .ok (.baload, 1) := by decide +kernel
theorem d_M_row_87 : decode b_M_row 87 = .ok (.ifCond .eq 7, 3) := by decide +kernel
theorem d_M_row_90 : decode b_M_row 90 = .ok (.iconst 0, 1) := by decide +kernel
theorem d_M_row_91 : decode b_M_row 91 = .ok (.goto 4, 3) := by decide +kernel
theorem d_M_row_94 : decode b_M_row 94 = .ok (.iconst 1, 1) := by decide +kernel
theorem d_M_row_95 : decode b_M_row 95 = .ok (.ireturn, 1) := by decide +kernel
theorem d_M_row_96 : decode b_M_row 96 = .ok (.iload_n 2, 1) := by decide +kernel
theorem d_M_row_97 : decode b_M_row 97 = .ok (.ifCond .ne 7, 3) := by decide +kernel
theorem d_M_row_100 : decode b_M_row 100 = .ok (.iload_n 3, 1) := by decide +kernel
theorem d_M_row_101 : decode b_M_row 101 = .ok (.goto 4, 3) := by decide +kernel
theorem d_M_row_104 : decode b_M_row 104 = .ok (.iload_n 2, 1) := by decide +kernel
theorem d_M_row_105 : decode b_M_row 105 = .ok (.invokestatic 80, 3) := by decide +kernel
theorem d_M_row_108 : decode b_M_row 108 = .ok (.istore 6, 2) := by decide +kernel
theorem d_M_row_110 : decode b_M_row 110 = .ok (.iload_n 3, 1) := by decide +kernel
theorem d_M_row_111 : decode b_M_row 111 = .ok (.ifCond .ne 7, 3) := by decide +kernel
theorem d_M_row_114 : decode b_M_row 114 = .ok (.iload_n 2, 1) := by decide +kernel
theorem d_M_row_115 : decode b_M_row 115 = .ok (.goto 4, 3) := by decide +kernel
theorem d_M_row_118 : decode b_M_row 118 = .ok (.iload_n 3, 1) := by decide +kernel
theorem d_M_row_119 : decode b_M_row 119 = .ok (.invokestatic 80, 3) := by decide +kernel
theorem d_M_row_122 : decode b_M_row 122 = .ok (.istore 7, 2) := by decide +kernel
theorem d_M_row_124 : decode b_M_row 124 = .ok (.iload_n 2, 1) := by decide +kernel
theorem d_M_row_125 : decode b_M_row 125 = .ok (.iload_n 3, 1) := by decide +kernel
theorem d_M_row_126 : decode b_M_row 126 = .ok (.if_icmp .ne 11, 3) := by decide +kernel
theorem d_M_row_129 : decode b_M_row 129 = .ok (.lload 4, 2) := by decide +kernel
theorem d_M_row_131 : decode b_M_row 131 = .ok (.invokestatic 61, 3) := by decide +kernel
theorem d_M_row_134 : decode b_M_row 134 = .ok (.goto 5, 3) := by decide +kernel
theorem d_M_row_137 : decode b_M_row 137 = .ok (.lload 4, 2) := by decide +kernel
theorem d_M_row_139 : decode b_M_row 139 = .ok (.lstore 8, 2) := by decide +kernel
theorem d_M_row_141 : decode b_M_row 141 = .ok (.aload_n 0, 1) := by decide +kernel
theorem d_M_row_142 : decode b_M_row 142 = .ok (.getfield 7, 3) := by decide +kernel
theorem d_M_row_145 : decode b_M_row 145 = .ok (.bipush 100, 2) := by decide +kernel
theorem d_M_row_147 : decode b_M_row 147 = .ok (.iload_n 1, 1) := by decide +kernel
theorem d_M_row_148 : decode b_M_row 148 = .ok (.imul, 1) := by decide +kernel
theorem d_M_row_149 : decode b_M_row 149 = .ok (.bipush 10, 2) := by decide +kernel
theorem d_M_row_151 : decode b_M_row 151 = .ok (.iload 6, 2) := by decide +kernel
theorem d_M_row_153 : decode b_M_row 153 = .ok (.imul, 1) := by decide +kernel
theorem d_M_row_154 : decode b_M_row 154 = .ok (.iadd, 1) := by decide +kernel
theorem d_M_row_155 : decode b_M_row 155 = .ok (.iload 7, 2) := by decide +kernel
theorem d_M_row_157 : decode b_M_row 157 = .ok (.iadd, 1) := by decide +kernel
theorem d_M_row_158 : decode b_M_row 158 = .ok (.laload, 1) := by decide +kernel
theorem d_M_row_159 : decode b_M_row 159 = .ok (.lstore 10, 2) := by decide +kernel
theorem d_M_row_161 : decode b_M_row 161 = .ok (.lload 8, 2) := by decide +kernel
theorem d_M_row_163 : decode b_M_row 163 = .ok (.lload 10, 2) := by decide +kernel
theorem d_M_row_165 : decode b_M_row 165 = .ok (.lcmp, 1) := by decide +kernel
theorem d_M_row_166 : decode b_M_row 166 = .ok (.ifCond .ge 43, 3) := by decide +kernel
theorem d_M_row_169 : decode b_M_row 169 = .ok (.aload_n 0, 1) := by decide +kernel
theorem d_M_row_170 : decode b_M_row 170 = .ok (.getfield 7, 3) := by decide +kernel
theorem d_M_row_173 : decode b_M_row 173 = .ok (.bipush 100, 2) := by decide +kernel
theorem d_M_row_175 : decode b_M_row 175 = .ok (.iload_n 1, 1) := by decide +kernel
theorem d_M_row_176 : decode b_M_row 176 = .ok (.imul, 1) := by decide +kernel
theorem d_M_row_177 : decode b_M_row 177 = .ok (.bipush 10, 2) := by decide +kernel
theorem d_M_row_179 : decode b_M_row 179 = .ok (.iload 6, 2) := by decide +kernel
theorem d_M_row_181 : decode b_M_row 181 = .ok (.imul, 1) := by decide +kernel
theorem d_M_row_182 : decode b_M_row 182 = .ok (.iadd, 1) := by decide +kernel
theorem d_M_row_183 : decode b_M_row 183 = .ok (.iload 7, 2) := by decide +kernel
theorem d_M_row_185 : decode b_M_row 185 = .ok (.iadd, 1) := by decide +kernel
theorem d_M_row_186 : decode b_M_row 186 = .ok (.lload 8, 2) := by decide +kernel
theorem d_M_row_188 : decode b_M_row 188 = .ok (.lastore, 1) := by decide +kernel
theorem d_M_row_189 : decode b_M_row 189 = .ok (.aload_n 0, 1) := by decide +kernel
theorem d_M_row_190 : decode b_M_row 190 = .ok (.getfield 7, 3) := by decide +kernel
theorem d_M_row_193 : decode b_M_row 193 = .ok (.bipush 100, 2) := by decide +kernel
theorem d_M_row_195 : decode b_M_row 195 = .ok (.iload_n 1, 1) := by decide +kernel
theorem d_M_row_196 : decode b_M_row 196 = .ok (.imul, 1) := by decide +kernel
theorem d_M_row_197 : decode b_M_row 197 = .ok (.bipush 10, 2) := by decide +kernel
theorem d_M_row_199 : decode b_M_row 199 = .ok (.iload 7, 2) := by decide +kernel
theorem d_M_row_201 : decode b_M_row 201 = .ok (.imul, 1) := by decide +kernel
theorem d_M_row_202 : decode b_M_row 202 = .ok (.iadd, 1) := by decide +kernel
theorem d_M_row_203 : decode b_M_row 203 = .ok (.iload 6, 2) := by decide +kernel
theorem d_M_row_205 : decode b_M_row 205 = .ok (.iadd, 1) := by decide +kernel
theorem d_M_row_206 : decode b_M_row 206 = .ok (.lload 8, 2) := by decide +kernel
theorem d_M_row_208 : decode b_M_row 208 = .ok (.lastore, 1) := by decide +kernel
theorem d_M_row_209 : decode b_M_row 209 = .ok (.aload_n 0, 1) := by decide +kernel
theorem d_M_row_210 : decode b_M_row 210 = .ok (.iload_n 1, 1) := by decide +kernel
theorem d_M_row_211 : decode b_M_row 211 = .ok (.invokevirtual 98, 3) := by decide +kernel
theorem d_M_row_214 : decode b_M_row 214 = .ok (.ifCond .ne 10, 3) := by decide +kernel
theorem d_M_row_217 : decode b_M_row 217 = .ok (.aload_n 0, 1) := by decide +kernel
theorem d_M_row_218 : decode b_M_row 218 = .ok (.iload_n 1, 1) := by decide +kernel
theorem d_M_row_219 : decode b_M_row 219 = .ok (.invokevirtual 73, 3) := by decide +kernel
theorem d_M_row_222 : decode b_M_row 222 = .ok (.iconst 0, 1) := by decide +kernel
theorem d_M_row_223 : decode b_M_row 223 = .ok (.ireturn, 1) := by decide +kernel
theorem d_M_row_224 : decode b_M_row 224 = .ok (.aload_n 0, 1) := by decide +kernel
theorem d_M_row_225 : decode b_M_row 225 = .ok (.invokevirtual 101, 3) := by decide +kernel
theorem d_M_row_228 : decode b_M_row 228 = .ok (.ifCond .eq 50, 3) := by decide +kernel
theorem d_M_row_231 : decode b_M_row 231 = .ok (.aload_n 0, 1) := by decide +kernel
theorem d_M_row_232 : decode b_M_row 232 = .ok (.getfield 7, 3) := by decide +kernel
theorem d_M_row_235 : decode b_M_row 235 = .ok (.bipush 100, 2) := by decide +kernel
theorem d_M_row_237 : decode b_M_row 237 = .ok (.iload_n 1, 1) := by decide +kernel
theorem d_M_row_238 : decode b_M_row 238 = .ok (.imul, 1) := by decide +kernel
theorem d_M_row_239 : decode b_M_row 239 = .ok (.bipush 10, 2) := by decide +kernel
theorem d_M_row_241 : decode b_M_row 241 = .ok (.iload 6, 2) := by decide +kernel
theorem d_M_row_243 : decode b_M_row 243 = .ok (.imul, 1) := by decide +kernel
theorem d_M_row_244 : decode b_M_row 244 = .ok (.iadd, 1) := by decide +kernel
theorem d_M_row_245 : decode b_M_row 245 = .ok (.iload 7, 2) := by decide +kernel
theorem d_M_row_247 : decode b_M_row 247 = .ok (.iadd, 1) := by decide +kernel
theorem d_M_row_248 : decode b_M_row 248 = .ok (.lload 10, 2) := by decide +kernel
theorem d_M_row_250 : decode b_M_row 250 = .ok (.lastore, 1) := by decide +kernel
theorem d_M_row_251 : decode b_M_row 251 = .ok (.aload_n 0, 1) := by decide +kernel
theorem d_M_row_252 : decode b_M_row 252 = .ok (.getfield 7, 3) := by decide +kernel
theorem d_M_row_255 : decode b_M_row 255 = .ok (.bipush 100, 2) := by decide +kernel
theorem d_M_row_257 : decode b_M_row 257 = .ok (.iload_n 1, 1) := by decide +kernel
theorem d_M_row_258 : decode b_M_row 258 = .ok (.imul, 1) := by decide +kernel
theorem d_M_row_259 : decode b_M_row 259 = .ok (.bipush 10, 2) := by decide +kernel
theorem d_M_row_261 : decode b_M_row 261 = .ok (.iload 7, 2) := by decide +kernel
theorem d_M_row_263 : decode b_M_row 263 = .ok (.imul, 1) := by decide +kernel
theorem d_M_row_264 : decode b_M_row 264 = .ok (.iadd, 1) := by decide +kernel
theorem d_M_row_265 : decode b_M_row 265 = .ok (.iload 6, 2) := by decide +kernel
theorem d_M_row_267 : decode b_M_row 267 = .ok (.iadd, 1) := by decide +kernel
theorem d_M_row_268 : decode b_M_row 268 = .ok (.lload 10, 2) := by decide +kernel
theorem d_M_row_270 : decode b_M_row 270 = .ok (.lastore, 1) := by decide +kernel
theorem d_M_row_271 : decode b_M_row 271 = .ok (.aload_n 0, 1) := by decide +kernel
theorem d_M_row_272 : decode b_M_row 272 = .ok (.iconst 3, 1) := by decide +kernel
theorem d_M_row_273 : decode b_M_row 273 = .ok (.putfield 48, 3) := by decide +kernel
theorem d_M_row_276 : decode b_M_row 276 = .ok (.iconst 0, 1) := by decide +kernel
theorem d_M_row_277 : decode b_M_row 277 = .ok (.ireturn, 1) := by decide +kernel
theorem d_M_row_278 : decode b_M_row 278 = .ok (.iconst 1, 1) := by decide +kernel
theorem d_M_row_279 : decode b_M_row 279 = .ok (.ireturn, 1) := by decide +kernel
theorem d_M_bound_0 : decode b_M_bound 0 = .ok (.aload_n 0, 1) := by decide +kernel
theorem d_M_bound_1 : decode b_M_bound 1 = .ok (.aload_n 0, 1) := by decide +kernel
theorem d_M_bound_2 : decode b_M_bound 2 = .ok (.iload_n 1, 1) := by decide +kernel
theorem d_M_bound_3 : decode b_M_bound 3 = .ok (.invokevirtual 83, 3) := by decide +kernel
theorem d_M_bound_6 : decode b_M_bound 6 = .ok (.ifCond .eq 23, 3) := by decide +kernel
theorem d_M_bound_9 : decode b_M_bound 9 = .ok (.aload_n 0, 1) := by decide +kernel
theorem d_M_bound_10 : decode b_M_bound 10 = .ok (.iload_n 2, 1) := by decide +kernel
theorem d_M_bound_11 : decode b_M_bound 11 = .ok (.invokevirtual 91, 3) := by decide +kernel
theorem d_M_bound_14 : decode b_M_bound 14 = .ok (.ifCond .eq 15, 3) := by decide +kernel
theorem d_M_bound_17 : decode b_M_bound 17 = .ok (.aload_n 0, 1) := by decide +kernel
theorem d_M_bound_18 : decode b_M_bound 18 = .ok (.iload_n 3, 1) := by decide +kernel
theorem d_M_bound_19 : decode b_M_bound 19 = .ok (.invokevirtual 91, 3) := by decide +kernel
theorem d_M_bound_22 : decode b_M_bound 22 = .ok (.ifCond .eq 7, 3) := by decide +kernel
theorem d_M_bound_25 : decode b_M_bound 25 = .ok (.iconst 0, 1) := by decide +kernel
theorem d_M_bound_26 : decode b_M_bound 26 = .ok (.goto 4, 3) := by decide +kernel
theorem d_M_bound_29 : decode b_M_bound 29 = .ok (.iconst 1, 1) := by decide +kernel
theorem d_M_bound_30 : decode b_M_bound 30 = .ok (.putfield 48, 3) := by decide +kernel
theorem d_M_bound_33 : decode b_M_bound 33 = .ok (.aload_n 0, 1) := by decide +kernel
theorem d_M_bound_34 : decode b_M_bound 34 = .ok (.getfield 48, 3) := by decide +kernel
theorem d_M_bound_37 : decode b_M_bound 37 = .ok (.ifCond .le 5, 3) := by decide +kernel
theorem d_M_bound_40 : decode b_M_bound 40 = .ok (.lconst 0, 1) := by decide +kernel
theorem d_M_bound_41 : decode b_M_bound 41 = .ok (.lreturn, 1) := by decide +kernel
theorem d_M_bound_42 : decode b_M_bound 42 = .ok (.aload_n 0, 1) := by decide +kernel
theorem d_M_bound_43 : decode b_M_bound 43 = .ok (.iload_n 1, 1) := by decide +kernel
theorem d_M_bound_44 : decode b_M_bound 44 = .ok (.invokevirtual 98, 3) := by decide +kernel
theorem d_M_bound_47 : decode b_M_bound 47 = .ok (.ifCond .eq 12, 3) := by decide +kernel
theorem d_M_bound_50 : decode b_M_bound 50 = .ok (.aload_n 0, 1) := by decide +kernel
theorem d_M_bound_51 : decode b_M_bound 51 = .ok (.iload_n 2, 1) := by decide +kernel
theorem d_M_bound_52 : decode b_M_bound 52 = .ok (.iload_n 3, 1) := by decide +kernel
theorem d_M_bound_53 : decode b_M_bound 53 = .ok (.invokevirtual 104, 3) := by decide +kernel
theorem d_M_bound_56 : decode b_M_bound 56 = .ok (.goto 6, 3) := by decide +kernel
theorem d_M_bound_59 : decode b_M_bound 59 = .ok (.ldc2_w 108, 3) := by decide +kernel
theorem d_M_bound_62 : decode b_M_bound 62 = .ok (.lreturn, 1) := by decide +kernel
theorem d_M_kept_0 : decode b_M_kept 0 = .ok (.aload_n 0, 1) := by decide +kernel
theorem d_M_kept_1 : decode b_M_kept 1 = .ok (.aload_n 0, 1) := by decide +kernel
theorem d_M_kept_2 : decode b_M_kept 2 = .ok (.iload_n 1, 1) := by decide +kernel
theorem d_M_kept_3 : decode b_M_kept 3 = .ok (.invokevirtual 83, 3) := by decide +kernel
theorem d_M_kept_6 : decode b_M_kept 6 = .ok (.ifCond .eq 23, 3) := by decide +kernel
theorem d_M_kept_9 : decode b_M_kept 9 = .ok (.aload_n 0, 1) := by decide +kernel
theorem d_M_kept_10 : decode b_M_kept 10 = .ok (.iload_n 2, 1) := by decide +kernel
theorem d_M_kept_11 : decode b_M_kept 11 = .ok (.invokevirtual 91, 3) := by decide +kernel
theorem d_M_kept_14 : decode b_M_kept 14 = .ok (.ifCond .eq 15, 3) := by decide +kernel
theorem d_M_kept_17 : decode b_M_kept 17 = .ok (.aload_n 0, 1) := by decide +kernel
theorem d_M_kept_18 : decode b_M_kept 18 = .ok (.iload_n 3, 1) := by decide +kernel
theorem d_M_kept_19 : decode b_M_kept 19 = .ok (.invokevirtual 91, 3) := by decide +kernel
theorem d_M_kept_22 : decode b_M_kept 22 = .ok (.ifCond .eq 7, 3) := by decide +kernel
theorem d_M_kept_25 : decode b_M_kept 25 = .ok (.iconst 0, 1) := by decide +kernel
theorem d_M_kept_26 : decode b_M_kept 26 = .ok (.goto 4, 3) := by decide +kernel
theorem d_M_kept_29 : decode b_M_kept 29 = .ok (.iconst 1, 1) := by decide +kernel
theorem d_M_kept_30 : decode b_M_kept 30 = .ok (.putfield 48, 3) := by decide +kernel
theorem d_M_kept_33 : decode b_M_kept 33 = .ok (.aload_n 0, 1) := by decide +kernel
theorem d_M_kept_34 : decode b_M_kept 34 = .ok (.getfield 48, 3) := by decide +kernel
theorem d_M_kept_37 : decode b_M_kept 37 = .ok (.ifCond .le 5, 3) := by decide +kernel
theorem d_M_kept_40 : decode b_M_kept 40 = .ok (.lconst 0, 1) := by decide +kernel
theorem d_M_kept_41 : decode b_M_kept 41 = .ok (.lreturn, 1) := by decide +kernel
theorem d_M_kept_42 : decode b_M_kept 42 = .ok (.iload_n 2, 1) := by decide +kernel
theorem d_M_kept_43 : decode b_M_kept 43 = .ok (.iload_n 3, 1) := by decide +kernel
theorem d_M_kept_44 : decode b_M_kept 44 = .ok (.if_icmp .eq 9, 3) := by decide +kernel
theorem d_M_kept_47 : decode b_M_kept 47 = .ok (.iload_n 2, 1) := by decide +kernel
theorem d_M_kept_48 : decode b_M_kept 48 = .ok (.iload_n 3, 1) := by decide +kernel
theorem d_M_kept_49 : decode b_M_kept 49 = .ok (.ineg, 1) := by decide +kernel
theorem d_M_kept_50 : decode b_M_kept 50 = .ok (.if_icmp .ne 7, 3) := by decide +kernel
theorem d_M_kept_53 : decode b_M_kept 53 = .ok (.ldc2_w 46, 3) := by decide +kernel
theorem d_M_kept_56 : decode b_M_kept 56 = .ok (.lreturn, 1) := by decide +kernel
theorem d_M_kept_57 : decode b_M_kept 57 = .ok (.aload_n 0, 1) := by decide +kernel
theorem d_M_kept_58 : decode b_M_kept 58 = .ok (.getfield 7, 3) := by decide +kernel
theorem d_M_kept_61 : decode b_M_kept 61 = .ok (.bipush 100, 2) := by decide +kernel
theorem d_M_kept_63 : decode b_M_kept 63 = .ok (.iload_n 1, 1) := by decide +kernel
theorem d_M_kept_64 : decode b_M_kept 64 = .ok (.imul, 1) := by decide +kernel
theorem d_M_kept_65 : decode b_M_kept 65 = .ok (.bipush 10, 2) := by decide +kernel
theorem d_M_kept_67 : decode b_M_kept 67 = .ok (.iload_n 2, 1) := by decide +kernel
theorem d_M_kept_68 : decode b_M_kept 68 = .ok (.ifCond .ne 7, 3) := by decide +kernel
theorem d_M_kept_71 : decode b_M_kept 71 = .ok (.iload_n 3, 1) := by decide +kernel
theorem d_M_kept_72 : decode b_M_kept 72 = .ok (.goto 4, 3) := by decide +kernel
theorem d_M_kept_75 : decode b_M_kept 75 = .ok (.iload_n 2, 1) := by decide +kernel
theorem d_M_kept_76 : decode b_M_kept 76 = .ok (.invokestatic 80, 3) := by decide +kernel
theorem d_M_kept_79 : decode b_M_kept 79 = .ok (.imul, 1) := by decide +kernel
theorem d_M_kept_80 : decode b_M_kept 80 = .ok (.iadd, 1) := by decide +kernel
theorem d_M_kept_81 : decode b_M_kept 81 = .ok (.iload_n 3, 1) := by decide +kernel
theorem d_M_kept_82 : decode b_M_kept 82 = .ok (.ifCond .ne 7, 3) := by decide +kernel
theorem d_M_kept_85 : decode b_M_kept 85 = .ok (.iload_n 2, 1) := by decide +kernel
theorem d_M_kept_86 : decode b_M_kept 86 = .ok (.goto 4, 3) := by decide +kernel
theorem d_M_kept_89 : decode b_M_kept 89 = .ok (.iload_n 3, 1) := by decide +kernel
theorem d_M_kept_90 : decode b_M_kept 90 = .ok (.invokestatic 80, 3) := by decide +kernel
theorem d_M_kept_93 : decode b_M_kept 93 = .ok (.iadd, 1) := by decide +kernel
theorem d_M_kept_94 : decode b_M_kept 94 = .ok (.laload, 1) := by decide +kernel
theorem d_M_kept_95 : decode b_M_kept 95 = .ok (.lreturn, 1) := by decide +kernel
theorem d_M_areShapes_0 : decode b_M_areShapes 0 = .ok (.aload_n 0, 1) := by decide +kernel
theorem d_M_areShapes_1 : decode b_M_areShapes 1 = .ok (.aload_n 0, 1) := by decide +kernel
theorem d_M_areShapes_2 : decode b_M_areShapes 2 = .ok (.iload_n 1, 1) := by decide +kernel
theorem d_M_areShapes_3 : decode b_M_areShapes 3 = .ok (.invokevirtual 83, 3) := by decide +kernel
theorem d_M_areShapes_6 : decode b_M_areShapes 6 = .ok (.ifCond .eq 23, 3) := by decide +kernel
theorem d_M_areShapes_9 : decode b_M_areShapes 9 = .ok (.aload_n 0, 1) := by decide +kernel
theorem d_M_areShapes_10 : decode b_M_areShapes 10 = .ok (.iload_n 2, 1) := by decide +kernel
theorem d_M_areShapes_11 : decode b_M_areShapes 11 = .ok (.invokevirtual 83, 3) := by decide +kernel
theorem d_M_areShapes_14 : decode b_M_areShapes 14 = .ok (.ifCond .eq 15, 3) := by decide +kernel
theorem d_M_areShapes_17 : decode b_M_areShapes 17 = .ok (.aload_n 0, 1) := by decide +kernel
theorem d_M_areShapes_18 : decode b_M_areShapes 18 = .ok (.iload_n 3, 1) := by decide +kernel
theorem d_M_areShapes_19 : decode b_M_areShapes 19 = .ok (.invokevirtual 83, 3) := by decide +kernel
theorem d_M_areShapes_22 : decode b_M_areShapes 22 = .ok (.ifCond .eq 7, 3) := by decide +kernel
theorem d_M_areShapes_25 : decode b_M_areShapes 25 = .ok (.iconst 0, 1) := by decide +kernel
theorem d_M_areShapes_26 : decode b_M_areShapes 26 = .ok (.goto 4, 3) := by decide +kernel
theorem d_M_areShapes_29 : decode b_M_areShapes 29 = .ok (.iconst 1, 1) := by decide +kernel
theorem d_M_areShapes_30 : decode b_M_areShapes 30 = .ok (.putfield 48, 3) := by decide +kernel
theorem d_M_areShapes_33 : decode b_M_areShapes 33 = .ok (.aload_n 0, 1) := by decide +kernel
theorem d_M_areShapes_34 : decode b_M_areShapes 34 = .ok (.getfield 48, 3) := by decide +kernel
theorem d_M_areShapes_37 : decode b_M_areShapes 37 = .ok (.ifCond .ne 7, 3) := by decide +kernel
theorem d_M_areShapes_40 : decode b_M_areShapes 40 = .ok (.iconst 1, 1) := by decide +kernel
theorem d_M_areShapes_41 : decode b_M_areShapes 41 = .ok (.goto 4, 3) := by decide +kernel
theorem d_M_areShapes_44 : decode b_M_areShapes 44 = .ok (.iconst 0, 1) := by decide +kernel
theorem d_M_areShapes_45 : decode b_M_areShapes 45 = .ok (.ireturn, 1) := by decide +kernel
theorem d_M_meet_0 : decode b_M_meet 0 = .ok (.aload_n 0, 1) := by decide +kernel
theorem d_M_meet_1 : decode b_M_meet 1 = .ok (.iload_n 1, 1) := by decide +kernel
theorem d_M_meet_2 : decode b_M_meet 2 = .ok (.iload_n 2, 1) := by decide +kernel
theorem d_M_meet_3 : decode b_M_meet 3 = .ok (.iload_n 3, 1) := by decide +kernel
theorem d_M_meet_4 : decode b_M_meet 4 = .ok (.invokevirtual 110, 3) := by decide +kernel
theorem d_M_meet_7 : decode b_M_meet 7 = .ok (.ifCond .ne 5, 3) := by decide +kernel
theorem d_M_meet_10 : decode b_M_meet 10 = .ok (.iconst 0, 1) := by decide +kernel
theorem d_M_meet_11 : decode b_M_meet 11 = .ok (.ireturn, 1) := by decide +kernel
theorem d_M_meet_12 : decode b_M_meet 12 = .ok (.aload_n 0, 1) := by decide +kernel
theorem d_M_meet_13 : decode b_M_meet 13 = .ok (.iload_n 2, 1) := by decide +kernel
theorem d_M_meet_14 : decode b_M_meet 14 = .ok (.invokevirtual 98, 3) := by decide +kernel
theorem d_M_meet_17 : decode b_M_meet 17 = .ok (.ifCond .ne 10, 3) := by decide +kernel
theorem d_M_meet_20 : decode b_M_meet 20 = .ok (.aload_n 0, 1) := by decide +kernel
theorem d_M_meet_21 : decode b_M_meet 21 = .ok (.iload_n 1, 1) := by decide +kernel
theorem d_M_meet_22 : decode b_M_meet 22 = .ok (.iconst 0, 1) := by decide +kernel
theorem d_M_meet_23 : decode b_M_meet 23 = .ok (.invokevirtual 114, 3) := by decide +kernel
theorem d_M_meet_26 : decode b_M_meet 26 = .ok (.ireturn, 1) := by decide +kernel
theorem d_M_meet_27 : decode b_M_meet 27 = .ok (.aload_n 0, 1) := by decide +kernel
theorem d_M_meet_28 : decode b_M_meet 28 = .ok (.iconst 1, 1) := by decide +kernel
theorem d_M_meet_29 : decode b_M_meet 29 = .ok (.invokevirtual 118, 3) := by decide +kernel
theorem d_M_meet_32 : decode b_M_meet 32 = .ok (.aload_n 0, 1) := by decide +kernel
theorem d_M_meet_33 : decode b_M_meet 33 = .ok (.iload_n 3, 1) := by decide +kernel
theorem d_M_meet_34 : decode b_M_meet 34 = .ok (.invokevirtual 98, 3) := by decide +kernel
theorem d_M_meet_37 : decode b_M_meet 37 = .ok (.ifCond .ne 10, 3) := by decide +kernel
theorem d_M_meet_40 : decode b_M_meet 40 = .ok (.aload_n 0, 1) := by decide +kernel
theorem d_M_meet_41 : decode b_M_meet 41 = .ok (.iload_n 1, 1) := by decide +kernel
theorem d_M_meet_42 : decode b_M_meet 42 = .ok (.iconst 0, 1) := by decide +kernel
theorem d_M_meet_43 : decode b_M_meet 43 = .ok (.invokevirtual 114, 3) := by decide +kernel
theorem d_M_meet_46 : decode b_M_meet 46 = .ok (.ireturn, 1) := by decide +kernel
theorem d_M_meet_47 : decode b_M_meet 47 = .ok (.iconst 0, 1) := by decide +kernel
theorem d_M_meet_48 : decode b_M_meet 48 = .ok (.istore 4, 2) := by decide +kernel
theorem d_M_meet_50 : decode b_M_meet 50 = .ok (.iload 4, 2) := by decide +kernel
theorem d_M_meet_52 : decode b_M_meet 52 = .ok (.bipush 100, 2) := by decide +kernel
theorem d_M_meet_54 : decode b_M_meet 54 = .ok (.if_icmp .ge 51, 3) := by decide +kernel
theorem d_M_meet_57 : decode b_M_meet 57 = .ok (.aload_n 0, 1) := by decide +kernel
theorem d_M_meet_58 : decode b_M_meet 58 = .ok (.getfield 17, 3) := by decide +kernel
theorem d_M_meet_61 : decode b_M_meet 61 = .ok (.iload 4, 2) := by decide +kernel
theorem d_M_meet_63 : decode b_M_meet 63 = .ok (.aload_n 0, 1) := by decide +kernel
theorem d_M_meet_64 : decode b_M_meet 64 = .ok (.getfield 20, 3) := by decide +kernel
theorem d_M_meet_67 : decode b_M_meet 67 = .ok (.iload 4, 2) := by decide +kernel
theorem d_M_meet_69 : decode b_M_meet 69 = .ok (.laload, 1) := by decide +kernel
theorem d_M_meet_70 : decode b_M_meet 70 = .ok (.aload_n 0, 1) := by decide +kernel
theorem d_M_meet_71 : decode b_M_meet 71 = .ok (.getfield 17, 3) := by decide +kernel
theorem d_M_meet_74 : decode b_M_meet 74 = .ok (.iload 4, 2) := by decide +kernel
theorem d_M_meet_76 : decode b_M_meet 76 = .ok (.laload, 1) := by decide +kernel
theorem d_M_meet_77 : decode b_M_meet 77 = .ok (.lcmp, 1) := by decide +kernel
theorem d_M_meet_78 : decode b_M_meet 78 = .ok (.ifCond .ge 13, 3) := by decide +kernel
theorem d_M_meet_81 : decode b_M_meet 81 = .ok (.aload_n 0, 1) := by decide +kernel
theorem d_M_meet_82 : decode b_M_meet 82 = .ok (.getfield 20, 3) := by decide +kernel
theorem d_M_meet_85 : decode b_M_meet 85 = .ok (.iload 4, 2) := by decide +kernel
theorem d_M_meet_87 : decode b_M_meet 87 = .ok (.laload, 1) := by decide +kernel
theorem d_M_meet_88 : decode b_M_meet 88 = .ok (.goto 10, 3) := by decide +kernel
theorem d_M_meet_91 : decode b_M_meet 91 = .ok (.aload_n 0, 1) := by decide +kernel
theorem d_M_meet_92 : decode b_M_meet 92 = .ok (.getfield 17, 3) := by decide +kernel
theorem d_M_meet_95 : decode b_M_meet 95 = .ok (.iload 4, 2) := by decide +kernel
theorem d_M_meet_97 : decode b_M_meet 97 = .ok (.laload, 1) := by decide +kernel
theorem d_M_meet_98 : decode b_M_meet 98 = .ok (.lastore, 1) := by decide +kernel
theorem d_M_meet_99 : decode b_M_meet 99 = .ok (.iinc 4 1, 3) := by decide +kernel
theorem d_M_meet_102 : decode b_M_meet 102 = .ok (.goto (-52), 3) := by decide +kernel
theorem d_M_meet_105 : decode b_M_meet 105 = .ok (.aload_n 0, 1) := by decide +kernel
theorem d_M_meet_106 : decode b_M_meet 106 = .ok (.invokevirtual 69, 3) := by decide +kernel
theorem d_M_meet_109 : decode b_M_meet 109 = .ok (.istore 4, 2) := by decide +kernel
theorem d_M_meet_111 : decode b_M_meet 111 = .ok (.aload_n 0, 1) := by decide +kernel
theorem d_M_meet_112 : decode b_M_meet 112 = .ok (.iload 4, 2) := by decide +kernel
theorem d_M_meet_114 : decode b_M_meet 114 = .ok (.ifCond .eq 14, 3) := by decide +kernel
theorem d_M_meet_117 : decode b_M_meet 117 = .ok (.aload_n 0, 1) := by decide +kernel
theorem d_M_meet_118 : decode b_M_meet 118 = .ok (.invokevirtual 101, 3) := by decide +kernel
theorem d_M_meet_121 : decode b_M_meet 121 = .ok (.ifCond .eq 7, 3) := by decide +kernel
theorem d_M_meet_124 : decode b_M_meet 124 = .ok (.iconst 2, 1) := by decide +kernel
theorem d_M_meet_125 : decode b_M_meet 125 = .ok (.goto 4, 3) := by decide +kernel
theorem d_M_meet_128 : decode b_M_meet 128 = .ok (.iconst 0, 1) := by decide +kernel
theorem d_M_meet_129 : decode b_M_meet 129 = .ok (.putfield 48, 3) := by decide +kernel
theorem d_M_meet_132 : decode b_M_meet 132 = .ok (.aload_n 0, 1) := by decide +kernel
theorem d_M_meet_133 : decode b_M_meet 133 = .ok (.getfield 48, 3) := by decide +kernel
theorem d_M_meet_136 : decode b_M_meet 136 = .ok (.ifCond .le 7, 3) := by decide +kernel
theorem d_M_meet_139 : decode b_M_meet 139 = .ok (.iconst 0, 1) := by decide +kernel
theorem d_M_meet_140 : decode b_M_meet 140 = .ok (.goto 10, 3) := by decide +kernel
theorem d_M_meet_143 : decode b_M_meet 143 = .ok (.aload_n 0, 1) := by decide +kernel
theorem d_M_meet_144 : decode b_M_meet 144 = .ok (.iload_n 1, 1) := by decide +kernel
theorem d_M_meet_145 : decode b_M_meet 145 = .ok (.iload 4, 2) := by decide +kernel
theorem d_M_meet_147 : decode b_M_meet 147 = .ok (.invokevirtual 114, 3) := by decide +kernel
theorem d_M_meet_150 : decode b_M_meet 150 = .ok (.ireturn, 1) := by decide +kernel
theorem d_M_join_0 : decode b_M_join 0 = .ok (.aload_n 0, 1) := by decide +kernel
theorem d_M_join_1 : decode b_M_join 1 = .ok (.iload_n 1, 1) := by decide +kernel
theorem d_M_join_2 : decode b_M_join 2 = .ok (.iload_n 2, 1) := by decide +kernel
theorem d_M_join_3 : decode b_M_join 3 = .ok (.iload_n 3, 1) := by decide +kernel
theorem d_M_join_4 : decode b_M_join 4 = .ok (.invokevirtual 110, 3) := by decide +kernel
theorem d_M_join_7 : decode b_M_join 7 = .ok (.ifCond .ne 5, 3) := by decide +kernel
theorem d_M_join_10 : decode b_M_join 10 = .ok (.iconst 0, 1) := by decide +kernel
theorem d_M_join_11 : decode b_M_join 11 = .ok (.ireturn, 1) := by decide +kernel
theorem d_M_join_12 : decode b_M_join 12 = .ok (.aload_n 0, 1) := by decide +kernel
theorem d_M_join_13 : decode b_M_join 13 = .ok (.iload_n 2, 1) := by decide +kernel
theorem d_M_join_14 : decode b_M_join 14 = .ok (.invokevirtual 98, 3) := by decide +kernel
theorem d_M_join_17 : decode b_M_join 17 = .ok (.istore 4, 2) := by decide +kernel
theorem d_M_join_19 : decode b_M_join 19 = .ok (.aload_n 0, 1) := by decide +kernel
theorem d_M_join_20 : decode b_M_join 20 = .ok (.iconst 1, 1) := by decide +kernel
theorem d_M_join_21 : decode b_M_join 21 = .ok (.invokevirtual 118, 3) := by decide +kernel
theorem d_M_join_24 : decode b_M_join 24 = .ok (.aload_n 0, 1) := by decide +kernel
theorem d_M_join_25 : decode b_M_join 25 = .ok (.iload_n 3, 1) := by decide +kernel
theorem d_M_join_26 : decode b_M_join 26 = .ok (.invokevirtual 98, 3) := by decide +kernel
theorem d_M_join_29 : decode b_M_join 29 = .ok (.istore 5, 2) := by decide +kernel
theorem d_M_join_31 : decode b_M_join 31 = .ok (.iload 5, 2) := by decide +kernel
theorem d_M_join_33 : decode b_M_join 33 = .ok (.ifCond .ne 8, 3) := by decide +kernel
theorem d_M_join_36 : decode b_M_join 36 = .ok (.aload_n 0, 1) := by decide +kernel
theorem d_M_join_37 : decode b_M_join 37 = .ok (.iconst 0, 1) := by decide +kernel
theorem d_M_join_38 : decode b_M_join 38 = .ok (.invokevirtual 118, 3) := by decide +kernel
theorem d_M_join_41 : decode b_M_join 41 = .ok (.iconst 0, 1) := by decide +kernel
theorem d_M_join_42 : decode b_M_join 42 = .ok (.istore 6, 2) := by decide +kernel
theorem d_M_join_44 : decode b_M_join 44 = .ok (.iload 6, 2) := by decide +kernel
theorem d_M_join_46 : decode b_M_join 46 = .ok (.bipush 100, 2) := by decide +kernel
theorem d_M_join_48 : decode b_M_join 48 = .ok (.if_icmp .ge 61, 3) := by decide +kernel
theorem d_M_join_51 : decode b_M_join 51 = .ok (.iload 4, 2) := by decide +kernel
theorem d_M_join_53 : decode b_M_join 53 = .ok (.ifCond .eq 56, 3) := by decide +kernel
theorem d_M_join_56 : decode b_M_join 56 = .ok (.iload 5, 2) := by decide +kernel
theorem d_M_join_58 : decode b_M_join 58 = .ok (.ifCond .eq 51, 3) := by decide +kernel
theorem d_M_join_61 : decode b_M_join 61 = .ok (.aload_n 0, 1) := by decide +kernel
theorem d_M_join_62 : decode b_M_join 62 = .ok (.getfield 17, 3) := by decide +kernel
theorem d_M_join_65 : decode b_M_join 65 = .ok (.iload 6, 2) := by decide +kernel
theorem d_M_join_67 : decode b_M_join 67 = .ok (.aload_n 0, 1) := by decide +kernel
theorem d_M_join_68 : decode b_M_join 68 = .ok (.getfield 20, 3) := by decide +kernel
theorem d_M_join_71 : decode b_M_join 71 = .ok (.iload 6, 2) := by decide +kernel
theorem d_M_join_73 : decode b_M_join 73 = .ok (.laload, 1) := by decide +kernel
theorem d_M_join_74 : decode b_M_join 74 = .ok (.aload_n 0, 1) := by decide +kernel
theorem d_M_join_75 : decode b_M_join 75 = .ok (.getfield 17, 3) := by decide +kernel
theorem d_M_join_78 : decode b_M_join 78 = .ok (.iload 6, 2) := by decide +kernel
theorem d_M_join_80 : decode b_M_join 80 = .ok (.laload, 1) := by decide +kernel
theorem d_M_join_81 : decode b_M_join 81 = .ok (.lcmp, 1) := by decide +kernel
theorem d_M_join_82 : decode b_M_join 82 = .ok (.ifCond .le 13, 3) := by decide +kernel
theorem d_M_join_85 : decode b_M_join 85 = .ok (.aload_n 0, 1) := by decide +kernel
theorem d_M_join_86 : decode b_M_join 86 = .ok (.getfield 20, 3) := by decide +kernel
theorem d_M_join_89 : decode b_M_join 89 = .ok (.iload 6, 2) := by decide +kernel
theorem d_M_join_91 : decode b_M_join 91 = .ok (.laload, 1) := by decide +kernel
theorem d_M_join_92 : decode b_M_join 92 = .ok (.goto 10, 3) := by decide +kernel
theorem d_M_join_95 : decode b_M_join 95 = .ok (.aload_n 0, 1) := by decide +kernel
theorem d_M_join_96 : decode b_M_join 96 = .ok (.getfield 17, 3) := by decide +kernel
theorem d_M_join_99 : decode b_M_join 99 = .ok (.iload 6, 2) := by decide +kernel
theorem d_M_join_101 : decode b_M_join 101 = .ok (.laload, 1) := by decide +kernel
theorem d_M_join_102 : decode b_M_join 102 = .ok (.lastore, 1) := by decide +kernel
theorem d_M_join_103 : decode b_M_join 103 = .ok (.iinc 6 1, 3) := by decide +kernel
theorem d_M_join_106 : decode b_M_join 106 = .ok (.goto (-62), 3) := by decide +kernel
theorem d_M_join_109 : decode b_M_join 109 = .ok (.aload_n 0, 1) := by decide +kernel
theorem d_M_join_110 : decode b_M_join 110 = .ok (.iload_n 1, 1) := by decide +kernel
theorem d_M_join_111 : decode b_M_join 111 = .ok (.iload 4, 2) := by decide +kernel
theorem d_M_join_113 : decode b_M_join 113 = .ok (.ifCond .ne 8, 3) := by decide +kernel
theorem d_M_join_116 : decode b_M_join 116 = .ok (.iload 5, 2) := by decide +kernel
theorem d_M_join_118 : decode b_M_join 118 = .ok (.ifCond .eq 14, 3) := by decide +kernel
theorem d_M_join_121 : decode b_M_join 121 = .ok (.aload_n 0, 1) := by decide +kernel
theorem d_M_join_122 : decode b_M_join 122 = .ok (.invokevirtual 69, 3) := by decide +kernel
theorem d_M_join_125 : decode b_M_join 125 = .ok (.ifCond .eq 7, 3) := by decide +kernel
theorem d_M_join_128 : decode b_M_join 128 = .ok (.iconst 1, 1) := by decide +kernel
theorem d_M_join_129 : decode b_M_join 129 = .ok (.goto 4, 3) := by decide +kernel
theorem d_M_join_132 : decode b_M_join 132 = .ok (.iconst 0, 1) := by decide +kernel
theorem d_M_join_133 : decode b_M_join 133 = .ok (.invokevirtual 114, 3) := by decide +kernel
theorem d_M_join_136 : decode b_M_join 136 = .ok (.ireturn, 1) := by decide +kernel
theorem d_M_widen_0 : decode b_M_widen 0 = .ok (.aload_n 0, 1) := by decide +kernel
theorem d_M_widen_1 : decode b_M_widen 1 = .ok (.iload_n 1, 1) := by decide +kernel
theorem d_M_widen_2 : decode b_M_widen 2 = .ok (.iload_n 2, 1) := by decide +kernel
theorem d_M_widen_3 : decode b_M_widen 3 = .ok (.iload_n 3, 1) := by decide +kernel
theorem d_M_widen_4 : decode b_M_widen 4 = .ok (.invokevirtual 110, 3) := by decide +kernel
theorem d_M_widen_7 : decode b_M_widen 7 = .ok (.ifCond .ne 5, 3) := by decide +kernel
theorem d_M_widen_10 : decode b_M_widen 10 = .ok (.iconst 0, 1) := by decide +kernel
theorem d_M_widen_11 : decode b_M_widen 11 = .ok (.ireturn, 1) := by decide +kernel
theorem d_M_widen_12 : decode b_M_widen 12 = .ok (.aload_n 0, 1) := by decide +kernel
theorem d_M_widen_13 : decode b_M_widen 13 = .ok (.getfield 13, 3) := by decide +kernel
theorem d_M_widen_16 : decode b_M_widen 16 = .ok (.iload_n 2, 1) := by decide +kernel
theorem d_M_widen_17 : decode b_M_widen 17 = .ok (.baload, 1) := by decide +kernel
theorem d_M_widen_18 : decode b_M_widen 18 = .ok (.ifCond .ne 12, 3) := by decide +kernel
theorem d_M_widen_21 : decode b_M_widen 21 = .ok (.aload_n 0, 1) := by decide +kernel
theorem d_M_widen_22 : decode b_M_widen 22 = .ok (.getfield 13, 3) := by decide +kernel
theorem d_M_widen_25 : decode b_M_widen 25 = .ok (.iload_n 3, 1) := by decide +kernel
theorem d_M_widen_26 : decode b_M_widen 26 = .ok (.baload, 1) := by decide +kernel
theorem d_M_widen_27 : decode b_M_widen 27 = .ok (.ifCond .eq 37, 3) := by decide +kernel
theorem d_M_widen_30 : decode b_M_widen 30 = .ok (.aload_n 0, 1) := by decide +kernel
theorem d_M_widen_31 : decode b_M_widen 31 = .ok (.iload_n 1, 1) := by decide +kernel
theorem d_M_widen_32 : decode b_M_widen 32 = .ok (.aload_n 0, 1) := by decide +kernel
theorem d_M_widen_33 : decode b_M_widen 33 = .ok (.getfield 13, 3) := by decide +kernel
theorem d_M_widen_36 : decode b_M_widen 36 = .ok (.iload_n 2, 1) := by decide +kernel
theorem d_M_widen_37 : decode b_M_widen 37 = .ok (.baload, 1) := by decide +kernel
theorem d_M_widen_38 : decode b_M_widen 38 = .ok (.ifCond .eq 7, 3) := by decide +kernel
theorem d_M_widen_41 : decode b_M_widen 41 = .ok (.iload_n 3, 1) := by decide +kernel
theorem d_M_widen_42 : decode b_M_widen 42 = .ok (.goto 4, 3) := by decide +kernel
theorem d_M_widen_45 : decode b_M_widen 45 = .ok (.iload_n 2, 1) := by decide +kernel
theorem d_M_widen_46 : decode b_M_widen 46 = .ok (.invokevirtual 122, 3) := by decide +kernel
theorem d_M_widen_49 : decode b_M_widen 49 = .ok (.aload_n 0, 1) := by decide +kernel
theorem d_M_widen_50 : decode b_M_widen 50 = .ok (.getfield 13, 3) := by decide +kernel
theorem d_M_widen_53 : decode b_M_widen 53 = .ok (.iload_n 1, 1) := by decide +kernel
theorem d_M_widen_54 : decode b_M_widen 54 = .ok (.baload, 1) := by decide +kernel
theorem d_M_widen_55 : decode b_M_widen 55 = .ok (.ifCond .eq 7, 3) := by decide +kernel
theorem d_M_widen_58 : decode b_M_widen 58 = .ok (.iconst 0, 1) := by decide +kernel
theorem d_M_widen_59 : decode b_M_widen 59 = .ok (.goto 4, 3) := by decide +kernel
theorem d_M_widen_62 : decode b_M_widen 62 = .ok (.iconst 1, 1) := by decide +kernel
theorem d_M_widen_63 : decode b_M_widen 63 = .ok (.ireturn, 1) := by decide +kernel
theorem d_M_widen_64 : decode b_M_widen 64 = .ok (.aload_n 0, 1) := by decide +kernel
theorem d_M_widen_65 : decode b_M_widen 65 = .ok (.iload_n 3, 1) := by decide +kernel
theorem d_M_widen_66 : decode b_M_widen 66 = .ok (.invokevirtual 98, 3) := by decide +kernel
theorem d_M_widen_69 : decode b_M_widen 69 = .ok (.istore 4, 2) := by decide +kernel
theorem d_M_widen_71 : decode b_M_widen 71 = .ok (.iconst 0, 1) := by decide +kernel
theorem d_M_widen_72 : decode b_M_widen 72 = .ok (.istore 5, 2) := by decide +kernel
theorem d_M_widen_74 : decode b_M_widen 74 = .ok (.iload 5, 2) := by decide +kernel
theorem d_M_widen_76 : decode b_M_widen 76 = .ok (.bipush 10, 2) := by decide +kernel
theorem d_M_widen_78 : decode b_M_widen 78 = .ok (.if_icmp .ge 114, 3) := by decide +kernel
theorem d_M_widen_81 : decode b_M_widen 81 = .ok (.iconst 0, 1) := by decide +kernel
theorem d_M_widen_82 : decode b_M_widen 82 = .ok (.istore 6, 2) := by decide +kernel
theorem d_M_widen_84 : decode b_M_widen 84 = .ok (.iload 6, 2) := by decide +kernel
theorem d_M_widen_86 : decode b_M_widen 86 = .ok (.bipush 10, 2) := by decide +kernel
theorem d_M_widen_88 : decode b_M_widen 88 = .ok (.if_icmp .ge 98, 3) := by decide +kernel
theorem d_M_widen_91 : decode b_M_widen 91 = .ok (.aload_n 0, 1) := by decide +kernel
theorem d_M_widen_92 : decode b_M_widen 92 = .ok (.getfield 7, 3) := by decide +kernel
theorem d_M_widen_95 : decode b_M_widen 95 = .ok (.bipush 100, 2) := by decide +kernel
theorem d_M_widen_97 : decode b_M_widen 97 = .ok (.iload_n 2, 1) := by decide +kernel
theorem d_M_widen_98 : decode b_M_widen 98 = .ok (.imul, 1) := by decide +kernel
theorem d_M_widen_99 : decode b_M_widen 99 = .ok (.bipush 10, 2) := by decide +kernel
theorem d_M_widen_101 : decode b_M_widen 101 = .ok (.iload 5, 2) := by decide +kernel
theorem d_M_widen_103 : decode b_M_widen 103 = .ok (.imul, 1) := by decide +kernel
theorem d_M_widen_104 : decode b_M_widen 104 = .ok (.iadd, 1) := by decide +kernel
theorem d_M_widen_105 : decode b_M_widen 105 = .ok (.iload 6, 2) := by decide +kernel
theorem d_M_widen_107 : decode b_M_widen 107 = .ok (.iadd, 1) := by decide +kernel
theorem d_M_widen_108 : decode b_M_widen 108 = .ok (.laload, 1) := by decide +kernel
theorem d_M_widen_109 : decode b_M_widen 109 = .ok (.lstore 7, 2) := by decide +kernel
theorem d_M_widen_111 : decode b_M_widen 111 = .ok (.iload 5, 2) := by decide +kernel
theorem d_M_widen_113 : decode b_M_widen 113 = .ok (.iload 6, 2) := by decide +kernel
theorem d_M_widen_115 : decode b_M_widen 115 = .ok (.if_icmp .ne 21, 3) := by decide +kernel
theorem d_M_widen_118 : decode b_M_widen 118 = .ok (.lload 7, 2) := by decide +kernel
theorem d_M_widen_120 : decode b_M_widen 120 = .ok (.ldc2_w 46, 3) := by decide +kernel
theorem d_M_widen_123 : decode b_M_widen 123 = .ok (.lcmp, 1) := by decide +kernel
theorem d_M_widen_124 : decode b_M_widen 124 = .ok (.ifCond .eq 12, 3) := by decide +kernel
theorem d_M_widen_127 : decode b_M_widen 127 = .ok (.ldc2_w 51, 3) := by decide +kernel
theorem d_M_widen_130 : decode b_M_widen 130 = .ok (.lload 7, 2) := by decide +kernel
theorem d_M_widen_132 : decode b_M_widen 132 = .ok (.lmul, 1) := by decide +kernel
theorem d_M_widen_133 : decode b_M_widen 133 = .ok (.goto 5, 3) := by decide +kernel
theorem d_M_widen_136 : decode b_M_widen 136 = .ok (.lload 7, 2) := by decide +kernel
theorem d_M_widen_138 : decode b_M_widen 138 = .ok (.lstore 9, 2) := by decide +kernel
theorem d_M_widen_140 : decode b_M_widen 140 = .ok (.aload_n 0, 1) := by decide +kernel
theorem d_M_widen_141 : decode b_M_widen 141 = .ok (.getfield 23, 3) := by decide +kernel
theorem d_M_widen_144 : decode b_M_widen 144 = .ok (.bipush 10, 2) := by decide +kernel
theorem d_M_widen_146 : decode b_M_widen 146 = .ok (.iload 5, 2) := by decide +kernel
theorem d_M_widen_148 : decode b_M_widen 148 = .ok (.imul, 1) := by decide +kernel
theorem d_M_widen_149 : decode b_M_widen 149 = .ok (.iload 6, 2) := by decide +kernel
theorem d_M_widen_151 : decode b_M_widen 151 = .ok (.iadd, 1) := by decide +kernel
theorem d_M_widen_152 : decode b_M_widen 152 = .ok (.aload_n 0, 1) := by decide +kernel
theorem d_M_widen_153 : decode b_M_widen 153 = .ok (.getfield 17, 3) := by decide +kernel
theorem d_M_widen_156 : decode b_M_widen 156 = .ok (.bipush 10, 2) := by decide +kernel
theorem d_M_widen_158 : decode b_M_widen 158 = .ok (.iload 5, 2) := by decide +kernel
theorem d_M_widen_160 : decode b_M_widen 160 = .ok (.imul, 1) := by decide +kernel
theorem d_M_widen_161 : decode b_M_widen 161 = .ok (.iload 6, 2) := by decide +kernel
theorem d_M_widen_163 : decode b_M_widen 163 = .ok (.iadd, 1) := by decide +kernel
theorem d_M_widen_164 : decode b_M_widen 164 = .ok (.laload, 1) := by decide +kernel
theorem d_M_widen_165 : decode b_M_widen 165 = .ok (.lload 9, 2) := by decide +kernel
theorem d_M_widen_167 : decode b_M_widen 167 = .ok (.lcmp, 1) := by decide +kernel
theorem d_M_widen_168 : decode b_M_widen 168 = .ok (.ifCond .gt 8, 3) := by decide +kernel
theorem d_M_widen_171 : decode b_M_widen 171 = .ok (.lload 7, 2) := by decide +kernel
theorem d_M_widen_173 : decode b_M_widen 173 = .ok (.goto 6, 3) := by decide +kernel
theorem d_M_widen_176 : decode b_M_widen 176 = .ok (.ldc2_w 46, 3) := by decide +kernel
theorem d_M_widen_179 : decode b_M_widen 179 = .ok (.lastore, 1) := by decide +kernel
theorem d_M_widen_180 : decode b_M_widen 180 = .ok (.iinc 6 1, 3) := by decide +kernel
theorem d_M_widen_183 : decode b_M_widen 183 = .ok (.goto (-99), 3) := by decide +kernel
theorem d_M_widen_186 : decode b_M_widen 186 = .ok (.iinc 5 1, 3) := by decide +kernel
theorem d_M_widen_189 : decode b_M_widen 189 = .ok (.goto (-115), 3) := by decide +kernel
theorem d_M_widen_192 : decode b_M_widen 192 = .ok (.aload_n 0, 1) := by decide +kernel
theorem d_M_widen_193 : decode b_M_widen 193 = .ok (.invokevirtual 126, 3) := by decide +kernel
theorem d_M_widen_196 : decode b_M_widen 196 = .ok (.istore 4, 2) := by decide +kernel
theorem d_M_widen_198 : decode b_M_widen 198 = .ok (.aload_n 0, 1) := by decide +kernel
theorem d_M_widen_199 : decode b_M_widen 199 = .ok (.invokevirtual 101, 3) := by decide +kernel
theorem d_M_widen_202 : decode b_M_widen 202 = .ok (.ifCond .eq 10, 3) := by decide +kernel
theorem d_M_widen_205 : decode b_M_widen 205 = .ok (.aload_n 0, 1) := by decide +kernel
theorem d_M_widen_206 : decode b_M_widen 206 = .ok (.iconst 2, 1) := by decide +kernel
theorem d_M_widen_207 : decode b_M_widen 207 = .ok (.putfield 48, 3) := by decide +kernel
theorem d_M_widen_210 : decode b_M_widen 210 = .ok (.iconst 0, 1) := by decide +kernel
theorem d_M_widen_211 : decode b_M_widen 211 = .ok (.ireturn, 1) := by decide +kernel
theorem d_M_widen_212 : decode b_M_widen 212 = .ok (.aload_n 0, 1) := by decide +kernel
theorem d_M_widen_213 : decode b_M_widen 213 = .ok (.iload_n 1, 1) := by decide +kernel
theorem d_M_widen_214 : decode b_M_widen 214 = .ok (.invokevirtual 129, 3) := by decide +kernel
theorem d_M_widen_217 : decode b_M_widen 217 = .ok (.iconst 1, 1) := by decide +kernel
theorem d_M_widen_218 : decode b_M_widen 218 = .ok (.ireturn, 1) := by decide +kernel
theorem d_M_narrow_0 : decode b_M_narrow 0 = .ok (.aload_n 0, 1) := by decide +kernel
theorem d_M_narrow_1 : decode b_M_narrow 1 = .ok (.iload_n 1, 1) := by decide +kernel
theorem d_M_narrow_2 : decode b_M_narrow 2 = .ok (.iload_n 2, 1) := by decide +kernel
theorem d_M_narrow_3 : decode b_M_narrow 3 = .ok (.iload_n 3, 1) := by decide +kernel
theorem d_M_narrow_4 : decode b_M_narrow 4 = .ok (.invokevirtual 110, 3) := by decide +kernel
theorem d_M_narrow_7 : decode b_M_narrow 7 = .ok (.ifCond .ne 5, 3) := by decide +kernel
theorem d_M_narrow_10 : decode b_M_narrow 10 = .ok (.iconst 0, 1) := by decide +kernel
theorem d_M_narrow_11 : decode b_M_narrow 11 = .ok (.ireturn, 1) := by decide +kernel
theorem d_M_narrow_12 : decode b_M_narrow 12 = .ok (.aload_n 0, 1) := by decide +kernel
theorem d_M_narrow_13 : decode b_M_narrow 13 = .ok (.getfield 13, 3) := by decide +kernel
theorem d_M_narrow_16 : decode b_M_narrow 16 = .ok (.iload_n 2, 1) := by decide +kernel
theorem d_M_narrow_17 : decode b_M_narrow 17 = .ok (.baload, 1) := by decide +kernel
theorem d_M_narrow_18 : decode b_M_narrow 18 = .ok (.ifCond .ne 12, 3) := by decide +kernel
theorem d_M_narrow_21 : decode b_M_narrow 21 = .ok (.aload_n 0, 1) := by decide +kernel
theorem d_M_narrow_22 : decode b_M_narrow 22 = .ok (.getfield 13, 3) := by decide +kernel
theorem d_M_narrow_25 : decode b_M_narrow 25 = .ok (.iload_n 3, 1) := by decide +kernel
theorem d_M_narrow_26 : decode b_M_narrow 26 = .ok (.baload, 1) := by decide +kernel
theorem d_M_narrow_27 : decode b_M_narrow 27 = .ok (.ifCond .eq 10, 3) := by decide +kernel
theorem d_M_narrow_30 : decode b_M_narrow 30 = .ok (.aload_n 0, 1) := by decide +kernel
theorem d_M_narrow_31 : decode b_M_narrow 31 = .ok (.iload_n 1, 1) := by decide +kernel
theorem d_M_narrow_32 : decode b_M_narrow 32 = .ok (.invokevirtual 73, 3) := by decide +kernel
theorem d_M_narrow_35 : decode b_M_narrow 35 = .ok (.iconst 0, 1) := by decide +kernel
theorem d_M_narrow_36 : decode b_M_narrow 36 = .ok (.ireturn, 1) := by decide +kernel
theorem d_M_narrow_37 : decode b_M_narrow 37 = .ok (.aload_n 0, 1) := by decide +kernel
theorem d_M_narrow_38 : decode b_M_narrow 38 = .ok (.iload_n 2, 1) := by decide +kernel
theorem d_M_narrow_39 : decode b_M_narrow 39 = .ok (.invokevirtual 98, 3) := by decide +kernel
theorem d_M_narrow_42 : decode b_M_narrow 42 = .ok (.istore 4, 2) := by decide +kernel
theorem d_M_narrow_44 : decode b_M_narrow 44 = .ok (.aload_n 0, 1) := by decide +kernel
theorem d_M_narrow_45 : decode b_M_narrow 45 = .ok (.iconst 1, 1) := by decide +kernel
theorem d_M_narrow_46 : decode b_M_narrow 46 = .ok (.invokevirtual 118, 3) := by decide +kernel
theorem d_M_narrow_49 : decode b_M_narrow 49 = .ok (.aload_n 0, 1) := by decide +kernel
theorem d_M_narrow_50 : decode b_M_narrow 50 = .ok (.iload_n 3, 1) := by decide +kernel
theorem d_M_narrow_51 : decode b_M_narrow 51 = .ok (.invokevirtual 98, 3) := by decide +kernel
theorem d_M_narrow_54 : decode b_M_narrow 54 = .ok (.istore 4, 2) := by decide +kernel
theorem d_M_narrow_56 : decode b_M_narrow 56 = .ok (.iconst 0, 1) := by decide +kernel
theorem d_M_narrow_57 : decode b_M_narrow 57 = .ok (.istore 5, 2) := by decide +kernel
theorem d_M_narrow_59 : decode b_M_narrow 59 = .ok (.iload 5, 2) := by decide +kernel
theorem d_M_narrow_61 : decode b_M_narrow 61 = .ok (.iconst 2, 1) := by decide +kernel
theorem d_M_narrow_62 : decode b_M_narrow 62 = .ok (.aload_n 0, 1) := by decide +kernel
theorem d_M_narrow_63 : decode b_M_narrow 63 = .ok (.getfield 42, 3) := by decide +kernel
theorem d_M_narrow_66 : decode b_M_narrow 66 = .ok (.imul, 1) := by decide +kernel
theorem d_M_narrow_67 : decode b_M_narrow 67 = .ok (.if_icmp .ge 151, 3) := by decide +kernel
theorem d_M_narrow_70 : decode b_M_narrow 70 = .ok (.iconst 0, 1) := by decide +kernel
theorem d_M_narrow_71 : decode b_M_narrow 71 = .ok (.istore 6, 2) := by decide +kernel
theorem d_M_narrow_73 : decode b_M_narrow 73 = .ok (.iload 6, 2) := by decide +kernel
theorem d_M_narrow_75 : decode b_M_narrow 75 = .ok (.iconst 2, 1) := by decide +kernel
theorem d_M_narrow_76 : decode b_M_narrow 76 = .ok (.aload_n 0, 1) := by decide +kernel
theorem d_M_narrow_77 : decode b_M_narrow 77 = .ok (.getfield 42, 3) := by decide +kernel
theorem d_M_narrow_80 : decode b_M_narrow 80 = .ok (.imul, 1) := by decide +kernel
theorem d_M_narrow_81 : decode b_M_narrow 81 = .ok (.if_icmp .ge 131, 3) := by decide +kernel
theorem d_M_narrow_84 : decode b_M_narrow 84 = .ok (.aload_n 0, 1) := by decide +kernel
theorem d_M_narrow_85 : decode b_M_narrow 85 = .ok (.getfield 17, 3) := by decide +kernel
theorem d_M_narrow_88 : decode b_M_narrow 88 = .ok (.bipush 10, 2) := by decide +kernel
theorem d_M_narrow_90 : decode b_M_narrow 90 = .ok (.iload 5, 2) := by decide +kernel
theorem d_M_narrow_92 : decode b_M_narrow 92 = .ok (.imul, 1) := by decide +kernel
theorem d_M_narrow_93 : decode b_M_narrow 93 = .ok (.iload 6, 2) := by decide +kernel
theorem d_M_narrow_95 : decode b_M_narrow 95 = .ok (.iadd, 1) := by decide +kernel
theorem d_M_narrow_96 : decode b_M_narrow 96 = .ok (.laload, 1) := by decide +kernel
theorem d_M_narrow_97 : decode b_M_narrow 97 = .ok (.lstore 7, 2) := by decide +kernel
theorem d_M_narrow_99 : decode b_M_narrow 99 = .ok (.iload 5, 2) := by decide +kernel
theorem d_M_narrow_101 : decode b_M_narrow 101 = .ok (.iload 6, 2) := by decide +kernel
theorem d_M_narrow_103 : decode b_M_narrow 103 = .ok (.if_icmp .ne 21, 3) := by decide +kernel
theorem d_M_narrow_106 : decode b_M_narrow 106 = .ok (.lload 7, 2) := by decide +kernel
theorem d_M_narrow_108 : decode b_M_narrow 108 = .ok (.ldc2_w 46, 3) := by decide +kernel
theorem d_M_narrow_111 : decode b_M_narrow 111 = .ok (.lcmp, 1) := by decide +kernel
theorem d_M_narrow_112 : decode b_M_narrow 112 = .ok (.ifCond .eq 12, 3) := by decide +kernel
theorem d_M_narrow_115 : decode b_M_narrow 115 = .ok (.lload 7, 2) := by decide +kernel
theorem d_M_narrow_117 : decode b_M_narrow 117 = .ok (.ldc2_w 51, 3) := by decide +kernel
theorem d_M_narrow_120 : decode b_M_narrow 120 = .ok (.ldiv, 1) := by decide +kernel
theorem d_M_narrow_121 : decode b_M_narrow 121 = .ok (.goto 5, 3) := by decide +kernel
theorem d_M_narrow_124 : decode b_M_narrow 124 = .ok (.lload 7, 2) := by decide +kernel
theorem d_M_narrow_126 : decode b_M_narrow 126 = .ok (.lstore 9, 2) := by decide +kernel
theorem d_M_narrow_128 : decode b_M_narrow 128 = .ok (.aload_n 0, 1) := by decide +kernel
theorem d_M_narrow_129 : decode b_M_narrow 129 = .ok (.getfield 20, 3) := by decide +kernel
theorem d_M_narrow_132 : decode b_M_narrow 132 = .ok (.bipush 10, 2) := by decide +kernel
theorem d_M_narrow_134 : decode b_M_narrow 134 = .ok (.iload 5, 2) := by decide +kernel
theorem d_M_narrow_136 : decode b_M_narrow 136 = .ok (.imul, 1) := by decide +kernel
theorem d_M_narrow_137 : decode b_M_narrow 137 = .ok (.iload 6, 2) := by decide +kernel
theorem d_M_narrow_139 : decode b_M_narrow 139 = .ok (.iadd, 1) := by decide +kernel
theorem d_M_narrow_140 : decode b_M_narrow 140 = .ok (.laload, 1) := by decide +kernel
theorem d_M_narrow_141 : decode b_M_narrow 141 = .ok (.ldc2_w 46, 3) := by decide +kernel
theorem d_M_narrow_144 : decode b_M_narrow 144 = .ok (.lcmp, 1) := by decide +kernel
theorem d_M_narrow_145 : decode b_M_narrow 145 = .ok (.ifCond .ne 17, 3) := by decide +kernel
theorem d_M_narrow_148 : decode b_M_narrow 148 = .ok (.iload 6, 2) := by decide +kernel
theorem d_M_narrow_150 : decode b_M_narrow 150 = .ok (.iload 5, 2) := by decide +kernel
theorem d_M_narrow_152 : decode b_M_narrow 152 = .ok (.invokestatic 53, 3) := by decide +kernel
theorem d_M_narrow_155 : decode b_M_narrow 155 = .ok (.if_icmp .eq 7, 3) := by decide +kernel
theorem d_M_narrow_158 : decode b_M_narrow 158 = .ok (.iconst 1, 1) := by decide +kernel
theorem d_M_narrow_159 : decode b_M_narrow 159 = .ok (.goto 4, 3) := by decide +kernel
theorem d_M_narrow_162 : decode b_M_narrow 162 = .ok (.iconst 0, 1) := by decide +kernel
theorem d_M_narrow_163 : decode b_M_narrow 163 = .ok (.istore 11, 2) := by decide +kernel
theorem d_M_narrow_165 : decode b_M_narrow 165 = .ok (.aload_n 0, 1) := by decide +kernel
theorem d_M_narrow_166 : decode b_M_narrow 166 = .ok (.getfield 23, 3) := by decide +kernel
theorem d_M_narrow_169 : decode b_M_narrow 169 = .ok (.bipush 10, 2) := by decide +kernel
theorem d_M_narrow_171 : decode b_M_narrow 171 = .ok (.iload 5, 2) := by decide +kernel
theorem d_M_narrow_173 : decode b_M_narrow 173 = .ok (.imul, 1) := by decide +kernel
theorem d_M_narrow_174 : decode b_M_narrow 174 = .ok (.iload 6, 2) := by decide +kernel
theorem d_M_narrow_176 : decode b_M_narrow 176 = .ok (.iadd, 1) := by decide +kernel
theorem d_M_narrow_177 : decode b_M_narrow 177 = .ok (.iload 11, 2) := by decide +kernel
theorem d_M_narrow_179 : decode b_M_narrow 179 = .ok (.ifCond .eq 8, 3) := by decide +kernel
theorem d_M_narrow_182 : decode b_M_narrow 182 = .ok (.lload 9, 2) := by decide +kernel
theorem d_M_narrow_184 : decode b_M_narrow 184 = .ok (.goto 21, 3) := by decide +kernel
theorem d_M_narrow_187 : decode b_M_narrow 187 = .ok (.aload_n 0, 1) := by decide +kernel
theorem d_M_narrow_188 : decode b_M_narrow 188 = .ok (.getfield 7, 3) := by decide +kernel
theorem d_M_narrow_191 : decode b_M_narrow 191 = .ok (.bipush 100, 2) := by decide +kernel
theorem d_M_narrow_193 : decode b_M_narrow 193 = .ok (.iload_n 2, 1) := by decide +kernel
theorem d_M_narrow_194 : decode b_M_narrow 194 = .ok (.imul, 1) := by decide +kernel
theorem d_M_narrow_195 : decode b_M_narrow 195 = .ok (.bipush 10, 2) := by decide +kernel
theorem d_M_narrow_197 : decode b_M_narrow 197 = .ok (.iload 5, 2) := by decide +kernel
theorem d_M_narrow_199 : decode b_M_narrow 199 = .ok (.imul, 1) := by decide +kernel
theorem d_M_narrow_200 : decode b_M_narrow 200 = .ok (.iadd, 1) := by decide +kernel
theorem d_M_narrow_201 : decode b_M_narrow 201 = .ok (.iload 6, 2) := by decide +kernel
theorem d_M_narrow_203 : decode b_M_narrow 203 = .ok (.iadd, 1) := by decide +kernel
theorem d_M_narrow_204 : decode b_M_narrow 204 = .ok (.laload, 1) := by decide +kernel
theorem d_M_narrow_205 : decode b_M_narrow 205 = .ok (.lastore, 1) := by decide +kernel
theorem d_M_narrow_206 : decode b_M_narrow 206 = .ok (.iinc 6 1, 3) := by decide +kernel
theorem d_M_narrow_209 : decode b_M_narrow 209 = .ok (.goto (-136), 3) := by decide +kernel
theorem d_M_narrow_212 : decode b_M_narrow 212 = .ok (.iinc 5 1, 3) := by decide +kernel
theorem d_M_narrow_215 : decode b_M_narrow 215 = .ok (.goto (-156), 3) := by decide +kernel
theorem d_M_narrow_218 : decode b_M_narrow 218 = .ok (.aload_n 0, 1) := by decide +kernel
theorem d_M_narrow_219 : decode b_M_narrow 219 = .ok (.invokevirtual 126, 3) := by decide +kernel
theorem d_M_narrow_222 : decode b_M_narrow 222 = .ok (.ifCond .ne 10, 3) := by decide +kernel
theorem d_M_narrow_225 : decode b_M_narrow 225 = .ok (.aload_n 0, 1) := by decide +kernel
theorem d_M_narrow_226 : decode b_M_narrow 226 = .ok (.iload_n 1, 1) := by decide +kernel
theorem d_M_narrow_227 : decode b_M_narrow 227 = .ok (.invokevirtual 73, 3) := by decide +kernel
theorem d_M_narrow_230 : decode b_M_narrow 230 = .ok (.iconst 0, 1) := by decide +kernel
theorem d_M_narrow_231 : decode b_M_narrow 231 = .ok (.ireturn, 1) := by decide +kernel
theorem d_M_narrow_232 : decode b_M_narrow 232 = .ok (.aload_n 0, 1) := by decide +kernel
theorem d_M_narrow_233 : decode b_M_narrow 233 = .ok (.invokevirtual 101, 3) := by decide +kernel
theorem d_M_narrow_236 : decode b_M_narrow 236 = .ok (.ifCond .eq 10, 3) := by decide +kernel
theorem d_M_narrow_239 : decode b_M_narrow 239 = .ok (.aload_n 0, 1) := by decide +kernel
theorem d_M_narrow_240 : decode b_M_narrow 240 = .ok (.iconst 2, 1) := by decide +kernel
theorem d_M_narrow_241 : decode b_M_narrow 241 = .ok (.putfield 48, 3) := by decide +kernel
theorem d_M_narrow_244 : decode b_M_narrow 244 = .ok (.iconst 0, 1) := by decide +kernel
theorem d_M_narrow_245 : decode b_M_narrow 245 = .ok (.ireturn, 1) := by decide +kernel
theorem d_M_narrow_246 : decode b_M_narrow 246 = .ok (.aload_n 0, 1) := by decide +kernel
theorem d_M_narrow_247 : decode b_M_narrow 247 = .ok (.iload_n 1, 1) := by decide +kernel
theorem d_M_narrow_248 : decode b_M_narrow 248 = .ok (.invokevirtual 129, 3) := by decide +kernel
theorem d_M_narrow_251 : decode b_M_narrow 251 = .ok (.iconst 1, 1) := by decide +kernel
theorem d_M_narrow_252 : decode b_M_narrow 252 = .ok (.ireturn, 1) := by decide +kernel
theorem d_M_copyRows_0 : decode b_M_copyRows 0 = .ok (.iconst 0, 1) := by decide +kernel
theorem d_M_copyRows_1 : decode b_M_copyRows 1 = .ok (.istore_n 3, 1) := by decide +kernel
theorem d_M_copyRows_2 : decode b_M_copyRows 2 = .ok (.iload_n 3, 1) := by decide +kernel
theorem d_M_copyRows_3 : decode b_M_copyRows 3 = .ok (.bipush 100, 2) := by decide +kernel
theorem d_M_copyRows_5 : decode b_M_copyRows 5 = .ok (.if_icmp .ge 31, 3) := by decide +kernel
theorem d_M_copyRows_8 : decode b_M_copyRows 8 = .ok (.aload_n 0, 1) := by decide +kernel
theorem d_M_copyRows_9 : decode b_M_copyRows 9 = .ok (.getfield 7, 3) := by decide +kernel
theorem d_M_copyRows_12 : decode b_M_copyRows 12 = .ok (.bipush 100, 2) := by decide +kernel
theorem d_M_copyRows_14 : decode b_M_copyRows 14 = .ok (.iload_n 1, 1) := by decide +kernel
theorem d_M_copyRows_15 : decode b_M_copyRows 15 = .ok (.imul, 1) := by decide +kernel
theorem d_M_copyRows_16 : decode b_M_copyRows 16 = .ok (.iload_n 3, 1) := by decide +kernel
theorem d_M_copyRows_17 : decode b_M_copyRows 17 = .ok (.iadd, 1) := by decide +kernel
theorem d_M_copyRows_18 : decode b_M_copyRows 18 = .ok (.aload_n 0, 1) := by decide +kernel
theorem d_M_copyRows_19 : decode b_M_copyRows 19 = .ok (.getfield 7, 3) := by decide +kernel
theorem d_M_copyRows_22 : decode b_M_copyRows 22 = .ok (.bipush 100, 2) := by decide +kernel
theorem d_M_copyRows_24 : decode b_M_copyRows 24 = .ok (.iload_n 2, 1) := by decide +kernel
theorem d_M_copyRows_25 : decode b_M_copyRows 25 = .ok (.imul, 1) := by decide +kernel
theorem d_M_copyRows_26 : decode b_M_copyRows 26 = .ok (.iload_n 3, 1) := by decide +kernel
theorem d_M_copyRows_27 : decode b_M_copyRows 27 = .ok (.iadd, 1) := by decide +kernel
theorem d_M_copyRows_28 : decode b_M_copyRows 28 = .ok (.laload, 1) := by decide +kernel
theorem d_M_copyRows_29 : decode b_M_copyRows 29 = .ok (.lastore, 1) := by decide +kernel
theorem d_M_copyRows_30 : decode b_M_copyRows 30 = .ok (.iinc 3 1, 3) := by decide +kernel
theorem d_M_copyRows_33 : decode b_M_copyRows 33 = .ok (.goto (-31), 3) := by decide +kernel
theorem d_M_copyRows_36 : decode b_M_copyRows 36 = .ok (.aload_n 0, 1) := by decide +kernel
theorem d_M_copyRows_37 : decode b_M_copyRows 37 = .ok (.getfield 13, 3) := by decide +kernel
theorem d_M_copyRows_40 : decode b_M_copyRows 40 = .ok (.iload_n 1, 1) := by decide +kernel
theorem d_M_copyRows_41 : decode b_M_copyRows 41 = .ok (.aload_n 0, 1) := by decide +kernel
theorem d_M_copyRows_42 : decode b_M_copyRows 42 = .ok (.getfield 13, 3) := by decide +kernel
theorem d_M_copyRows_45 : decode b_M_copyRows 45 = .ok (.iload_n 2, 1) := by decide +kernel
theorem d_M_copyRows_46 : decode b_M_copyRows 46 = .ok (.baload, 1) := by decide +kernel
theorem d_M_copyRows_47 : decode b_M_copyRows 47 = .ok (.bastore, 1) := by decide +kernel
theorem d_M_copyRows_48 : decode b_M_copyRows 48 = .ok (.return_, 1) := by decide +kernel
theorem d_M_copy_0 : decode b_M_copy 0 = .ok (.aload_n 0, 1) := by decide +kernel
theorem d_M_copy_1 : decode b_M_copy 1 = .ok (.iload_n 1, 1) := by decide +kernel
theorem d_M_copy_2 : decode b_M_copy 2 = .ok (.iload_n 2, 1) := by decide +kernel
theorem d_M_copy_3 : decode b_M_copy 3 = .ok (.iload_n 2, 1) := by decide +kernel
theorem d_M_copy_4 : decode b_M_copy 4 = .ok (.invokevirtual 110, 3) := by decide +kernel
theorem d_M_copy_7 : decode b_M_copy 7 = .ok (.ifCond .eq 9, 3) := by decide +kernel
theorem d_M_copy_10 : decode b_M_copy 10 = .ok (.aload_n 0, 1) := by decide +kernel
theorem d_M_copy_11 : decode b_M_copy 11 = .ok (.iload_n 1, 1) := by decide +kernel
theorem d_M_copy_12 : decode b_M_copy 12 = .ok (.iload_n 2, 1) := by decide +kernel
theorem d_M_copy_13 : decode b_M_copy 13 = .ok (.invokevirtual 122, 3) := by decide +kernel
theorem d_M_copy_16 : decode b_M_copy 16 = .ok (.return_, 1) := by decide +kernel
theorem d_M_drop_0 : decode b_M_drop 0 = .ok (.iconst 0, 1) := by decide +kernel
theorem d_M_drop_1 : decode b_M_drop 1 = .ok (.istore_n 2, 1) := by decide +kernel
theorem d_M_drop_2 : decode b_M_drop 2 = .ok (.iload_n 2, 1) := by decide +kernel
theorem d_M_drop_3 : decode b_M_drop 3 = .ok (.bipush 10, 2) := by decide +kernel
theorem d_M_drop_5 : decode b_M_drop 5 = .ok (.if_icmp .ge 58, 3) := by decide +kernel
theorem d_M_drop_8 : decode b_M_drop 8 = .ok (.iconst 2, 1) := by decide +kernel
theorem d_M_drop_9 : decode b_M_drop 9 = .ok (.iload_n 1, 1) := by decide +kernel
theorem d_M_drop_10 : decode b_M_drop 10 = .ok (.imul, 1) := by decide +kernel
theorem d_M_drop_11 : decode b_M_drop 11 = .ok (.iconst 2, 1) := by decide +kernel
theorem d_M_drop_12 : decode b_M_drop 12 = .ok (.isub, 1) := by decide +kernel
theorem d_M_drop_13 : decode b_M_drop 13 = .ok (.istore_n 3, 1) := by decide +kernel
theorem d_M_drop_14 : decode b_M_drop 14 = .ok (.iload_n 3, 1) := by decide +kernel
theorem d_M_drop_15 : decode b_M_drop 15 = .ok (.iconst 2, 1) := by decide +kernel
theorem d_M_drop_16 : decode b_M_drop 16 = .ok (.iload_n 1, 1) := by decide +kernel
theorem d_M_drop_17 : decode b_M_drop 17 = .ok (.imul, 1) := by decide +kernel
theorem d_M_drop_18 : decode b_M_drop 18 = .ok (.iconst 1, 1) := by decide +kernel
theorem d_M_drop_19 : decode b_M_drop 19 = .ok (.isub, 1) := by decide +kernel
theorem d_M_drop_20 : decode b_M_drop 20 = .ok (.if_icmp .gt 37, 3) := by decide +kernel
theorem d_M_drop_23 : decode b_M_drop 23 = .ok (.aload_n 0, 1) := by decide +kernel
theorem d_M_drop_24 : decode b_M_drop 24 = .ok (.getfield 17, 3) := by decide +kernel
theorem d_M_drop_27 : decode b_M_drop 27 = .ok (.bipush 10, 2) := by decide +kernel
theorem d_M_drop_29 : decode b_M_drop 29 = .ok (.iload_n 3, 1) := by decide +kernel
theorem d_M_drop_30 : decode b_M_drop 30 = .ok (.imul, 1) := by decide +kernel
theorem d_M_drop_31 : decode b_M_drop 31 = .ok (.iload_n 2, 1) := by decide +kernel
theorem d_M_drop_32 : decode b_M_drop 32 = .ok (.iadd, 1) := by decide +kernel
theorem d_M_drop_33 : decode b_M_drop 33 = .ok (.ldc2_w 46, 3) := by decide +kernel
theorem d_M_drop_36 : decode b_M_drop 36 = .ok (.lastore, 1) := by decide +kernel
theorem d_M_drop_37 : decode b_M_drop 37 = .ok (.aload_n 0, 1) := by decide +kernel
theorem d_M_drop_38 : decode b_M_drop 38 = .ok (.getfield 17, 3) := by decide +kernel
theorem d_M_drop_41 : decode b_M_drop 41 = .ok (.bipush 10, 2) := by decide +kernel
theorem d_M_drop_43 : decode b_M_drop 43 = .ok (.iload_n 2, 1) := by decide +kernel
theorem d_M_drop_44 : decode b_M_drop 44 = .ok (.imul, 1) := by decide +kernel
theorem d_M_drop_45 : decode b_M_drop 45 = .ok (.iload_n 3, 1) := by decide +kernel
theorem d_M_drop_46 : decode b_M_drop 46 = .ok (.iadd, 1) := by decide +kernel
theorem d_M_drop_47 : decode b_M_drop 47 = .ok (.ldc2_w 46, 3) := by decide +kernel
theorem d_M_drop_50 : decode b_M_drop 50 = .ok (.lastore, 1) := by decide +kernel
theorem d_M_drop_51 : decode b_M_drop 51 = .ok (.iinc 3 1, 3) := by decide +kernel
theorem d_M_drop_54 : decode b_M_drop 54 = .ok (.goto (-40), 3) := by decide +kernel
theorem d_M_drop_57 : decode b_M_drop 57 = .ok (.iinc 2 1, 3) := by decide +kernel
theorem d_M_drop_60 : decode b_M_drop 60 = .ok (.goto (-58), 3) := by decide +kernel
theorem d_M_drop_63 : decode b_M_drop 63 = .ok (.return_, 1) := by decide +kernel
theorem d_M_set_0 : decode b_M_set 0 = .ok (.aload_n 0, 1) := by decide +kernel
theorem d_M_set_1 : decode b_M_set 1 = .ok (.aload_n 0, 1) := by decide +kernel
theorem d_M_set_2 : decode b_M_set 2 = .ok (.iload_n 1, 1) := by decide +kernel
theorem d_M_set_3 : decode b_M_set 3 = .ok (.invokevirtual 83, 3) := by decide +kernel
theorem d_M_set_6 : decode b_M_set 6 = .ok (.ifCond .eq 19, 3) := by decide +kernel
theorem d_M_set_9 : decode b_M_set 9 = .ok (.aload_n 0, 1) := by decide +kernel
theorem d_M_set_10 : decode b_M_set 10 = .ok (.iload_n 2, 1) := by decide +kernel
theorem d_M_set_11 : decode b_M_set 11 = .ok (.invokevirtual 132, 3) := by decide +kernel
theorem d_M_set_14 : decode b_M_set 14 = .ok (.ifCond .eq 11, 3) := by decide +kernel
theorem d_M_set_17 : decode b_M_set 17 = .ok (.aload_n 0, 1) := by decide +kernel
theorem d_M_set_18 : decode b_M_set 18 = .ok (.iload_n 3, 1) := by decide +kernel
theorem d_M_set_19 : decode b_M_set 19 = .ok (.invokevirtual 91, 3) := by decide +kernel
theorem d_M_set_22 : decode b_M_set 22 = .ok (.ifCond .ne 7, 3) := by decide +kernel
theorem d_M_set_25 : decode b_M_set 25 = .ok (.iconst 1, 1) := by decide +kernel
theorem d_M_set_26 : decode b_M_set 26 = .ok (.goto 16, 3) := by decide +kernel
theorem d_M_set_29 : decode b_M_set 29 = .ok (.lload 4, 2) := by decide +kernel
theorem d_M_set_31 : decode b_M_set 31 = .ok (.invokestatic 94, 3) := by decide +kernel
theorem d_M_set_34 : decode b_M_set 34 = .ok (.ifCond .ne 7, 3) := by decide +kernel
theorem d_M_set_37 : decode b_M_set 37 = .ok (.iconst 2, 1) := by decide +kernel
theorem d_M_set_38 : decode b_M_set 38 = .ok (.goto 4, 3) := by decide +kernel
theorem d_M_set_41 : decode b_M_set 41 = .ok (.iconst 0, 1) := by decide +kernel
theorem d_M_set_42 : decode b_M_set 42 = .ok (.putfield 48, 3) := by decide +kernel
theorem d_M_set_45 : decode b_M_set 45 = .ok (.aload_n 0, 1) := by decide +kernel
theorem d_M_set_46 : decode b_M_set 46 = .ok (.getfield 48, 3) := by decide +kernel
theorem d_M_set_49 : decode b_M_set 49 = .ok (.ifCond .le 5, 3) := by decide +kernel
theorem d_M_set_52 : decode b_M_set 52 = .ok (.iconst 0, 1) := by decide +kernel
theorem d_M_set_53 : decode b_M_set 53 = .ok (.ireturn, 1) := by decide +kernel
theorem d_M_set_54 : decode b_M_set 54 = .ok (.aload_n 0, 1) := by decide +kernel
theorem d_M_set_55 : decode b_M_set 55 = .ok (.iload_n 1, 1) := by decide +kernel
theorem d_M_set_56 : decode b_M_set 56 = .ok (.invokevirtual 98, 3) := by decide +kernel
theorem d_M_set_59 : decode b_M_set 59 = .ok (.ifCond .ne 10, 3) := by decide +kernel
theorem d_M_set_62 : decode b_M_set 62 = .ok (.aload_n 0, 1) := by decide +kernel
theorem d_M_set_63 : decode b_M_set 63 = .ok (.iload_n 1, 1) := by decide +kernel
theorem d_M_set_64 : decode b_M_set 64 = .ok (.iconst 0, 1) := by decide +kernel
theorem d_M_set_65 : decode b_M_set 65 = .ok (.invokevirtual 114, 3) := by decide +kernel
theorem d_M_set_68 : decode b_M_set 68 = .ok (.ireturn, 1) := by decide +kernel
theorem d_M_set_69 : decode b_M_set 69 = .ok (.iload_n 3, 1) := by decide +kernel
theorem d_M_set_70 : decode b_M_set 70 = .ok (.iload_n 2, 1) := by decide +kernel
theorem d_M_set_71 : decode b_M_set 71 = .ok (.if_icmp .eq 9, 3) := by decide +kernel
theorem d_M_set_74 : decode b_M_set 74 = .ok (.iload_n 3, 1) := by decide +kernel
theorem d_M_set_75 : decode b_M_set 75 = .ok (.iload_n 2, 1) := by decide +kernel
theorem d_M_set_76 : decode b_M_set 76 = .ok (.ineg, 1) := by decide +kernel
theorem d_M_set_77 : decode b_M_set 77 = .ok (.if_icmp .ne 24, 3) := by decide +kernel
theorem d_M_set_80 : decode b_M_set 80 = .ok (.aload_n 0, 1) := by decide +kernel
theorem d_M_set_81 : decode b_M_set 81 = .ok (.iload_n 2, 1) := by decide +kernel
theorem d_M_set_82 : decode b_M_set 82 = .ok (.iload_n 3, 1) := by decide +kernel
theorem d_M_set_83 : decode b_M_set 83 = .ok (.iload_n 2, 1) := by decide +kernel
theorem d_M_set_84 : decode b_M_set 84 = .ok (.ineg, 1) := by decide +kernel
theorem d_M_set_85 : decode b_M_set 85 = .ok (.if_icmp .ne 7, 3) := by decide +kernel
theorem d_M_set_88 : decode b_M_set 88 = .ok (.iconst 1, 1) := by decide +kernel
theorem d_M_set_89 : decode b_M_set 89 = .ok (.goto 4, 3) := by decide +kernel
theorem d_M_set_92 : decode b_M_set 92 = .ok (.iconst 0, 1) := by decide +kernel
theorem d_M_set_93 : decode b_M_set 93 = .ok (.lload 4, 2) := by decide +kernel
theorem d_M_set_95 : decode b_M_set 95 = .ok (.invokevirtual 135, 3) := by decide +kernel
theorem d_M_set_98 : decode b_M_set 98 = .ok (.goto 27, 3) := by decide +kernel
theorem d_M_set_101 : decode b_M_set 101 = .ok (.aload_n 0, 1) := by decide +kernel
theorem d_M_set_102 : decode b_M_set 102 = .ok (.iload_n 2, 1) := by decide +kernel
theorem d_M_set_103 : decode b_M_set 103 = .ok (.invokevirtual 139, 3) := by decide +kernel
theorem d_M_set_106 : decode b_M_set 106 = .ok (.aload_n 0, 1) := by decide +kernel
theorem d_M_set_107 : decode b_M_set 107 = .ok (.iload_n 2, 1) := by decide +kernel
theorem d_M_set_108 : decode b_M_set 108 = .ok (.iload_n 3, 1) := by decide +kernel
theorem d_M_set_109 : decode b_M_set 109 = .ok (.ineg, 1) := by decide +kernel
theorem d_M_set_110 : decode b_M_set 110 = .ok (.lload 4, 2) := by decide +kernel
theorem d_M_set_112 : decode b_M_set 112 = .ok (.invokevirtual 142, 3) := by decide +kernel
theorem d_M_set_115 : decode b_M_set 115 = .ok (.aload_n 0, 1) := by decide +kernel
theorem d_M_set_116 : decode b_M_set 116 = .ok (.iload_n 2, 1) := by decide +kernel
theorem d_M_set_117 : decode b_M_set 117 = .ok (.ineg, 1) := by decide +kernel
theorem d_M_set_118 : decode b_M_set 118 = .ok (.iload_n 3, 1) := by decide +kernel
theorem d_M_set_119 : decode b_M_set 119 = .ok (.lload 4, 2) := by decide +kernel
theorem d_M_set_121 : decode b_M_set 121 = .ok (.lneg, 1) := by decide +kernel
theorem d_M_set_122 : decode b_M_set 122 = .ok (.invokevirtual 142, 3) := by decide +kernel
theorem d_M_set_125 : decode b_M_set 125 = .ok (.aload_n 0, 1) := by decide +kernel
theorem d_M_set_126 : decode b_M_set 126 = .ok (.invokevirtual 69, 3) := by decide +kernel
theorem d_M_set_129 : decode b_M_set 129 = .ok (.istore 6, 2) := by decide +kernel
theorem d_M_set_131 : decode b_M_set 131 = .ok (.aload_n 0, 1) := by decide +kernel
theorem d_M_set_132 : decode b_M_set 132 = .ok (.iload 6, 2) := by decide +kernel
theorem d_M_set_134 : decode b_M_set 134 = .ok (.ifCond .eq 14, 3) := by decide +kernel
theorem d_M_set_137 : decode b_M_set 137 = .ok (.aload_n 0, 1) := by decide +kernel
theorem d_M_set_138 : decode b_M_set 138 = .ok (.invokevirtual 101, 3) := by decide +kernel
theorem d_M_set_141 : decode b_M_set 141 = .ok (.ifCond .eq 7, 3) := by decide +kernel
theorem d_M_set_144 : decode b_M_set 144 = .ok (.iconst 3, 1) := by decide +kernel
theorem d_M_set_145 : decode b_M_set 145 = .ok (.goto 4, 3) := by decide +kernel
theorem d_M_set_148 : decode b_M_set 148 = .ok (.iconst 0, 1) := by decide +kernel
theorem d_M_set_149 : decode b_M_set 149 = .ok (.putfield 48, 3) := by decide +kernel
theorem d_M_set_152 : decode b_M_set 152 = .ok (.aload_n 0, 1) := by decide +kernel
theorem d_M_set_153 : decode b_M_set 153 = .ok (.getfield 48, 3) := by decide +kernel
theorem d_M_set_156 : decode b_M_set 156 = .ok (.ifCond .le 7, 3) := by decide +kernel
theorem d_M_set_159 : decode b_M_set 159 = .ok (.iconst 0, 1) := by decide +kernel
theorem d_M_set_160 : decode b_M_set 160 = .ok (.goto 10, 3) := by decide +kernel
theorem d_M_set_163 : decode b_M_set 163 = .ok (.aload_n 0, 1) := by decide +kernel
theorem d_M_set_164 : decode b_M_set 164 = .ok (.iload_n 1, 1) := by decide +kernel
theorem d_M_set_165 : decode b_M_set 165 = .ok (.iload 6, 2) := by decide +kernel
theorem d_M_set_167 : decode b_M_set 167 = .ok (.invokevirtual 114, 3) := by decide +kernel
theorem d_M_set_170 : decode b_M_set 170 = .ok (.ireturn, 1) := by decide +kernel
theorem d_M_turn_0 : decode b_M_turn 0 = .ok (.iconst 2, 1) := by decide +kernel
theorem d_M_turn_1 : decode b_M_turn 1 = .ok (.iload_n 1, 1) := by decide +kernel
theorem d_M_turn_2 : decode b_M_turn 2 = .ok (.imul, 1) := by decide +kernel
theorem d_M_turn_3 : decode b_M_turn 3 = .ok (.iconst 2, 1) := by decide +kernel
theorem d_M_turn_4 : decode b_M_turn 4 = .ok (.isub, 1) := by decide +kernel
theorem d_M_turn_5 : decode b_M_turn 5 = .ok (.istore 5, 2) := by decide +kernel
theorem d_M_turn_7 : decode b_M_turn 7 = .ok (.iconst 0, 1) := by decide +kernel
theorem d_M_turn_8 : decode b_M_turn 8 = .ok (.istore 6, 2) := by decide +kernel
theorem d_M_turn_10 : decode b_M_turn 10 = .ok (.iload 6, 2) := by decide +kernel
theorem d_M_turn_12 : decode b_M_turn 12 = .ok (.bipush 100, 2) := by decide +kernel
theorem d_M_turn_14 : decode b_M_turn 14 = .ok (.if_icmp .ge 23, 3) := by decide +kernel
theorem d_M_turn_17 : decode b_M_turn 17 = .ok (.aload_n 0, 1) := by decide +kernel
theorem d_M_turn_18 : decode b_M_turn 18 = .ok (.getfield 20, 3) := by decide +kernel
theorem d_M_turn_21 : decode b_M_turn 21 = .ok (.iload 6, 2) := by decide +kernel
theorem d_M_turn_23 : decode b_M_turn 23 = .ok (.aload_n 0, 1) := by decide +kernel
theorem d_M_turn_24 : decode b_M_turn 24 = .ok (.getfield 17, 3) := by decide +kernel
theorem d_M_turn_27 : decode b_M_turn 27 = .ok (.iload 6, 2) := by decide +kernel
theorem d_M_turn_29 : decode b_M_turn 29 = .ok (.laload, 1) := by decide +kernel
theorem d_M_turn_30 : decode b_M_turn 30 = .ok (.lastore, 1) := by decide +kernel
theorem d_M_turn_31 : decode b_M_turn 31 = .ok (.iinc 6 1, 3) := by decide +kernel
theorem d_M_turn_34 : decode b_M_turn 34 = .ok (.goto (-24), 3) := by decide +kernel
theorem d_M_turn_37 : decode b_M_turn 37 = .ok (.iconst 0, 1) := by decide +kernel
theorem d_M_turn_38 : decode b_M_turn 38 = .ok (.istore 6, 2) := by decide +kernel
theorem d_M_turn_40 : decode b_M_turn 40 = .ok (.iload 6, 2) := by decide +kernel
theorem d_M_turn_42 : decode b_M_turn 42 = .ok (.bipush 10, 2) := by decide +kernel
theorem d_M_turn_44 : decode b_M_turn 44 = .ok (.if_icmp .ge 175, 3) := by decide +kernel
theorem d_M_turn_47 : decode b_M_turn 47 = .ok (.iconst 0, 1) := by decide +kernel
theorem d_M_turn_48 : decode b_M_turn 48 = .ok (.istore 7, 2) := by decide +kernel
theorem d_M_turn_50 : decode b_M_turn 50 = .ok (.iload 7, 2) := by decide +kernel
theorem d_M_turn_52 : decode b_M_turn 52 = .ok (.bipush 10, 2) := by decide +kernel
theorem d_M_turn_54 : decode b_M_turn 54 = .ok (.if_icmp .ge 159, 3) := by decide +kernel
theorem d_M_turn_57 : decode b_M_turn 57 = .ok (.iload_n 2, 1) := by decide +kernel
theorem d_M_turn_58 : decode b_M_turn 58 = .ok (.ifCond .eq 27, 3) := by decide +kernel
theorem d_M_turn_61 : decode b_M_turn 61 = .ok (.iload 6, 2) := by decide +kernel
theorem d_M_turn_63 : decode b_M_turn 63 = .ok (.iload 5, 2) := by decide +kernel
theorem d_M_turn_65 : decode b_M_turn 65 = .ok (.if_icmp .eq 12, 3) := by decide +kernel
theorem d_M_turn_68 : decode b_M_turn 68 = .ok (.iload 6, 2) := by decide +kernel
theorem d_M_turn_70 : decode b_M_turn 70 = .ok (.iload 5, 2) := by decide +kernel
theorem d_M_turn_72 : decode b_M_turn 72 = .ok (.iconst 1, 1) := by decide +kernel
theorem d_M_turn_73 : decode b_M_turn 73 = .ok (.iadd, 1) := by decide +kernel
theorem d_M_turn_74 : decode b_M_turn 74 = .ok (.if_icmp .ne 11, 3) := by decide +kernel
theorem d_M_turn_77 : decode b_M_turn 77 = .ok (.iload 6, 2) := by decide +kernel
theorem d_M_turn_79 : decode b_M_turn 79 = .ok (.invokestatic 53, 3) := by decide +kernel
theorem d_M_turn_82 : decode b_M_turn 82 = .ok (.goto 5, 3) := by decide +kernel
theorem d_M_turn_85 : decode b_M_turn 85 = .ok (.iload 6, 2) := by decide +kernel
theorem d_M_turn_87 : decode b_M_turn 87 = .ok (.istore 8, 2) := by decide +kernel
theorem d_M_turn_89 : decode b_M_turn 89 = .ok (.iload_n 2, 1) := by decide +kernel
theorem d_M_turn_90 : decode b_M_turn 90 = .ok (.ifCond .eq 27, 3) := by decide +kernel
theorem d_M_turn_93 : decode b_M_turn 93 = .ok (.iload 7, 2) := by decide +kernel
theorem d_M_turn_95 : decode b_M_turn 95 = .ok (.iload 5, 2) := by decide +kernel
theorem d_M_turn_97 : decode b_M_turn 97 = .ok (.if_icmp .eq 12, 3) := by decide +kernel
theorem d_M_turn_100 : decode b_M_turn 100 = .ok (.iload 7, 2) := by decide +kernel
theorem d_M_turn_102 : decode b_M_turn 102 = .ok (.iload 5, 2) := by decide +kernel
theorem d_M_turn_104 : decode b_M_turn 104 = .ok (.iconst 1, 1) := by decide +kernel
theorem d_M_turn_105 : decode b_M_turn 105 = .ok (.iadd, 1) := by decide +kernel
theorem d_M_turn_106 : decode b_M_turn 106 = .ok (.if_icmp .ne 11, 3) := by decide +kernel
theorem d_M_turn_109 : decode b_M_turn 109 = .ok (.iload 7, 2) := by decide +kernel
theorem d_M_turn_111 : decode b_M_turn 111 = .ok (.invokestatic 53, 3) := by decide +kernel
theorem d_M_turn_114 : decode b_M_turn 114 = .ok (.goto 5, 3) := by decide +kernel
theorem d_M_turn_117 : decode b_M_turn 117 = .ok (.iload 7, 2) := by decide +kernel
theorem d_M_turn_119 : decode b_M_turn 119 = .ok (.istore 9, 2) := by decide +kernel
theorem d_M_turn_121 : decode b_M_turn 121 = .ok (.iload 6, 2) := by decide +kernel
theorem d_M_turn_123 : decode b_M_turn 123 = .ok (.iload 5, 2) := by decide +kernel
theorem d_M_turn_125 : decode b_M_turn 125 = .ok (.if_icmp .ne 7, 3) := by decide +kernel
theorem d_M_turn_128 : decode b_M_turn 128 = .ok (.lload_n 3, 1) := by decide +kernel
theorem d_M_turn_129 : decode b_M_turn 129 = .ok (.goto 18, 3) := by decide +kernel
theorem d_M_turn_132 : decode b_M_turn 132 = .ok (.iload 6, 2) := by decide +kernel
theorem d_M_turn_134 : decode b_M_turn 134 = .ok (.iload 5, 2) := by decide +kernel
theorem d_M_turn_136 : decode b_M_turn 136 = .ok (.iconst 1, 1) := by decide +kernel
theorem d_M_turn_137 : decode b_M_turn 137 = .ok (.iadd, 1) := by decide +kernel
theorem d_M_turn_138 : decode b_M_turn 138 = .ok (.if_icmp .ne 8, 3) := by decide +kernel
theorem d_M_turn_141 : decode b_M_turn 141 = .ok (.lload_n 3, 1) := by decide +kernel
theorem d_M_turn_142 : decode b_M_turn 142 = .ok (.lneg, 1) := by decide +kernel
theorem d_M_turn_143 : decode b_M_turn 143 = .ok (.goto 4, 3) := by decide +kernel
theorem d_M_turn_146 : decode b_M_turn 146 = .ok (.lconst 0, 1) := by decide +kernel
theorem d_M_turn_147 : decode b_M_turn 147 = .ok (.iload 7, 2) := by decide +kernel
theorem d_M_turn_149 : decode b_M_turn 149 = .ok (.iload 5, 2) := by decide +kernel
theorem d_M_turn_151 : decode b_M_turn 151 = .ok (.if_icmp .ne 7, 3) := by decide +kernel
theorem d_M_turn_154 : decode b_M_turn 154 = .ok (.lload_n 3, 1) := by decide +kernel
theorem d_M_turn_155 : decode b_M_turn 155 = .ok (.goto 18, 3) := by decide +kernel
theorem d_M_turn_158 : decode b_M_turn 158 = .ok (.iload 7, 2) := by decide +kernel
theorem d_M_turn_160 : decode b_M_turn 160 = .ok (.iload 5, 2) := by decide +kernel
theorem d_M_turn_162 : decode b_M_turn 162 = .ok (.iconst 1, 1) := by decide +kernel
theorem d_M_turn_163 : decode b_M_turn 163 = .ok (.iadd, 1) := by decide +kernel
theorem d_M_turn_164 : decode b_M_turn 164 = .ok (.if_icmp .ne 8, 3) := by decide +kernel
theorem d_M_turn_167 : decode b_M_turn 167 = .ok (.lload_n 3, 1) := by decide +kernel
theorem d_M_turn_168 : decode b_M_turn 168 = .ok (.lneg, 1) := by decide +kernel
theorem d_M_turn_169 : decode b_M_turn 169 = .ok (.goto 4, 3) := by decide +kernel
theorem d_M_turn_172 : decode b_M_turn 172 = .ok (.lconst 0, 1) := by decide +kernel
theorem d_M_turn_173 : decode b_M_turn 173 = .ok (.ladd, 1) := by decide +kernel
theorem d_M_turn_174 : decode b_M_turn 174 = .ok (.lstore 10, 2) := by decide +kernel
theorem d_M_turn_176 : decode b_M_turn 176 = .ok (.aload_n 0, 1) := by decide +kernel
theorem d_M_turn_177 : decode b_M_turn 177 = .ok (.getfield 17, 3) := by decide +kernel
theorem d_M_turn_180 : decode b_M_turn 180 = .ok (.bipush 10, 2) := by decide +kernel
theorem d_M_turn_182 : decode b_M_turn 182 = .ok (.iload 6, 2) := by decide +kernel
theorem d_M_turn_184 : decode b_M_turn 184 = .ok (.imul, 1) := by decide +kernel
theorem d_M_turn_185 : decode b_M_turn 185 = .ok (.iload 7, 2) := by decide +kernel
theorem d_M_turn_187 : decode b_M_turn 187 = .ok (.iadd, 1) := by decide +kernel
theorem d_M_turn_188 : decode b_M_turn 188 = .ok (.aload_n 0, 1) := by decide +kernel
theorem d_M_turn_189 : decode b_M_turn 189 = .ok (.getfield 20, 3) := by decide +kernel
theorem d_M_turn_192 : decode b_M_turn 192 = .ok (.bipush 10, 2) := by decide +kernel
theorem d_M_turn_194 : decode b_M_turn 194 = .ok (.iload 8, 2) := by decide +kernel
theorem d_M_turn_196 : decode b_M_turn 196 = .ok (.imul, 1) := by decide +kernel
theorem d_M_turn_197 : decode b_M_turn 197 = .ok (.iload 9, 2) := by decide +kernel
theorem d_M_turn_199 : decode b_M_turn 199 = .ok (.iadd, 1) := by decide +kernel
theorem d_M_turn_200 : decode b_M_turn 200 = .ok (.laload, 1) := by decide +kernel
theorem d_M_turn_201 : decode b_M_turn 201 = .ok (.lload 10, 2) := by decide +kernel
theorem d_M_turn_203 : decode b_M_turn 203 = .ok (.invokestatic 57, 3) := by decide +kernel
theorem d_M_turn_206 : decode b_M_turn 206 = .ok (.lastore, 1) := by decide +kernel
theorem d_M_turn_207 : decode b_M_turn 207 = .ok (.iinc 7 1, 3) := by decide +kernel
theorem d_M_turn_210 : decode b_M_turn 210 = .ok (.goto (-160), 3) := by decide +kernel
theorem d_M_turn_213 : decode b_M_turn 213 = .ok (.iinc 6 1, 3) := by decide +kernel
theorem d_M_turn_216 : decode b_M_turn 216 = .ok (.goto (-176), 3) := by decide +kernel
theorem d_M_turn_219 : decode b_M_turn 219 = .ok (.return_, 1) := by decide +kernel
theorem d_M_forget_0 : decode b_M_forget 0 = .ok (.aload_n 0, 1) := by decide +kernel
theorem d_M_forget_1 : decode b_M_forget 1 = .ok (.aload_n 0, 1) := by decide +kernel
theorem d_M_forget_2 : decode b_M_forget 2 = .ok (.iload_n 1, 1) := by decide +kernel
theorem d_M_forget_3 : decode b_M_forget 3 = .ok (.invokevirtual 83, 3) := by decide +kernel
theorem d_M_forget_6 : decode b_M_forget 6 = .ok (.ifCond .eq 15, 3) := by decide +kernel
theorem d_M_forget_9 : decode b_M_forget 9 = .ok (.aload_n 0, 1) := by decide +kernel
theorem d_M_forget_10 : decode b_M_forget 10 = .ok (.iload_n 2, 1) := by decide +kernel
theorem d_M_forget_11 : decode b_M_forget 11 = .ok (.invokevirtual 132, 3) := by decide +kernel
theorem d_M_forget_14 : decode b_M_forget 14 = .ok (.ifCond .eq 7, 3) := by decide +kernel
theorem d_M_forget_17 : decode b_M_forget 17 = .ok (.iconst 0, 1) := by decide +kernel
theorem d_M_forget_18 : decode b_M_forget 18 = .ok (.goto 4, 3) := by decide +kernel
theorem d_M_forget_21 : decode b_M_forget 21 = .ok (.iconst 1, 1) := by decide +kernel
theorem d_M_forget_22 : decode b_M_forget 22 = .ok (.putfield 48, 3) := by decide +kernel
theorem d_M_forget_25 : decode b_M_forget 25 = .ok (.aload_n 0, 1) := by decide +kernel
theorem d_M_forget_26 : decode b_M_forget 26 = .ok (.getfield 48, 3) := by decide +kernel
theorem d_M_forget_29 : decode b_M_forget 29 = .ok (.ifCond .le 5, 3) := by decide +kernel
theorem d_M_forget_32 : decode b_M_forget 32 = .ok (.iconst 0, 1) := by decide +kernel
theorem d_M_forget_33 : decode b_M_forget 33 = .ok (.ireturn, 1) := by decide +kernel
theorem d_M_forget_34 : decode b_M_forget 34 = .ok (.aload_n 0, 1) := by decide +kernel
theorem d_M_forget_35 : decode b_M_forget 35 = .ok (.iload_n 1, 1) := by decide +kernel
theorem d_M_forget_36 : decode b_M_forget 36 = .ok (.invokevirtual 98, 3) := by decide +kernel
theorem d_M_forget_39 : decode b_M_forget 39 = .ok (.ifCond .ne 10, 3) := by decide +kernel
theorem d_M_forget_42 : decode b_M_forget 42 = .ok (.aload_n 0, 1) := by decide +kernel
theorem d_M_forget_43 : decode b_M_forget 43 = .ok (.iload_n 1, 1) := by decide +kernel
theorem d_M_forget_44 : decode b_M_forget 44 = .ok (.iconst 0, 1) := by decide +kernel
theorem d_M_forget_45 : decode b_M_forget 45 = .ok (.invokevirtual 114, 3) := by decide +kernel
theorem d_M_forget_48 : decode b_M_forget 48 = .ok (.ireturn, 1) := by decide +kernel
theorem d_M_forget_49 : decode b_M_forget 49 = .ok (.aload_n 0, 1) := by decide +kernel
theorem d_M_forget_50 : decode b_M_forget 50 = .ok (.iload_n 2, 1) := by decide +kernel
theorem d_M_forget_51 : decode b_M_forget 51 = .ok (.invokevirtual 139, 3) := by decide +kernel
theorem d_M_forget_54 : decode b_M_forget 54 = .ok (.aload_n 0, 1) := by decide +kernel
theorem d_M_forget_55 : decode b_M_forget 55 = .ok (.iload_n 1, 1) := by decide +kernel
theorem d_M_forget_56 : decode b_M_forget 56 = .ok (.aload_n 0, 1) := by decide +kernel
theorem d_M_forget_57 : decode b_M_forget 57 = .ok (.invokevirtual 69, 3) := by decide +kernel
theorem d_M_forget_60 : decode b_M_forget 60 = .ok (.invokevirtual 114, 3) := by decide +kernel
theorem d_M_forget_63 : decode b_M_forget 63 = .ok (.ireturn, 1) := by decide +kernel
theorem d_M_within_0 : decode b_M_within 0 = .ok (.aload_n 0, 1) := by decide +kernel
theorem d_M_within_1 : decode b_M_within 1 = .ok (.aload_n 0, 1) := by decide +kernel
theorem d_M_within_2 : decode b_M_within 2 = .ok (.iload_n 1, 1) := by decide +kernel
theorem d_M_within_3 : decode b_M_within 3 = .ok (.invokevirtual 83, 3) := by decide +kernel
theorem d_M_within_6 : decode b_M_within 6 = .ok (.ifCond .eq 15, 3) := by decide +kernel
theorem d_M_within_9 : decode b_M_within 9 = .ok (.aload_n 0, 1) := by decide +kernel
theorem d_M_within_10 : decode b_M_within 10 = .ok (.iload_n 2, 1) := by decide +kernel
theorem d_M_within_11 : decode b_M_within 11 = .ok (.invokevirtual 83, 3) := by decide +kernel
theorem d_M_within_14 : decode b_M_within 14 = .ok (.ifCond .eq 7, 3) := by decide +kernel
theorem d_M_within_17 : decode b_M_within 17 = .ok (.iconst 0, 1) := by decide +kernel
theorem d_M_within_18 : decode b_M_within 18 = .ok (.goto 4, 3) := by decide +kernel
theorem d_M_within_21 : decode b_M_within 21 = .ok (.iconst 1, 1) := by decide +kernel
theorem d_M_within_22 : decode b_M_within 22 = .ok (.putfield 48, 3) := by decide +kernel
theorem d_M_within_25 : decode b_M_within 25 = .ok (.aload_n 0, 1) := by decide +kernel
theorem d_M_within_26 : decode b_M_within 26 = .ok (.getfield 48, 3) := by decide +kernel
theorem d_M_within_29 : decode b_M_within 29 = .ok (.ifCond .le 5, 3) := by decide +kernel
theorem d_M_within_32 : decode b_M_within 32 = .ok (.iconst 0, 1) := by decide +kernel
theorem d_M_within_33 : decode b_M_within 33 = .ok (.ireturn, 1) := by decide +kernel
theorem d_M_within_34 : decode b_M_within 34 = .ok (.aload_n 0, 1) := by decide +kernel
theorem d_M_within_35 : decode b_M_within 35 = .ok (.iload_n 1, 1) := by decide +kernel
theorem d_M_within_36 : decode b_M_within 36 = .ok (.invokevirtual 98, 3) := by decide +kernel
theorem d_M_within_39 : decode b_M_within 39 = .ok (.ifCond .ne 5, 3) := by decide +kernel
theorem d_M_within_42 : decode b_M_within 42 = .ok (.iconst 1, 1) := by decide +kernel
theorem d_M_within_43 : decode b_M_within 43 = .ok (.ireturn, 1) := by decide +kernel
theorem d_M_within_44 : decode b_M_within 44 = .ok (.aload_n 0, 1) := by decide +kernel
theorem d_M_within_45 : decode b_M_within 45 = .ok (.getfield 13, 3) := by decide +kernel
theorem d_M_within_48 : decode b_M_within 48 = .ok (.iload_n 2, 1) := by decide +kernel
theorem d_M_within_49 : decode b_M_within 49 = .ok (.baload, 1) := by decide +kernel
theorem d_M_within_50 : decode b_M_within 50 = .ok (.ifCond .ne 7, 3) := by decide +kernel
theorem d_M_within_53 : decode b_M_within 53 = .ok (.iconst 1, 1) := by decide +kernel
theorem d_M_within_54 : decode b_M_within 54 = .ok (.goto 4, 3) := by decide +kernel
theorem d_M_within_57 : decode b_M_within 57 = .ok (.iconst 0, 1) := by decide +kernel
theorem d_M_within_58 : decode b_M_within 58 = .ok (.istore_n 3, 1) := by decide +kernel
theorem d_M_within_59 : decode b_M_within 59 = .ok (.iconst 0, 1) := by decide +kernel
theorem d_M_within_60 : decode b_M_within 60 = .ok (.istore 4, 2) := by decide +kernel
theorem d_M_within_62 : decode b_M_within 62 = .ok (.iload 4, 2) := by decide +kernel
theorem d_M_within_64 : decode b_M_within 64 = .ok (.iconst 2, 1) := by decide +kernel
theorem d_M_within_65 : decode b_M_within 65 = .ok (.aload_n 0, 1) := by decide +kernel
theorem d_M_within_66 : decode b_M_within 66 = .ok (.getfield 42, 3) := by decide +kernel
theorem d_M_within_69 : decode b_M_within 69 = .ok (.imul, 1) := by decide +kernel
theorem d_M_within_70 : decode b_M_within 70 = .ok (.if_icmp .ge 107, 3) := by decide +kernel
theorem d_M_within_73 : decode b_M_within 73 = .ok (.iconst 0, 1) := by decide +kernel
theorem d_M_within_74 : decode b_M_within 74 = .ok (.istore 5, 2) := by decide +kernel
theorem d_M_within_76 : decode b_M_within 76 = .ok (.iload 5, 2) := by decide +kernel
theorem d_M_within_78 : decode b_M_within 78 = .ok (.iconst 2, 1) := by decide +kernel
theorem d_M_within_79 : decode b_M_within 79 = .ok (.aload_n 0, 1) := by decide +kernel
theorem d_M_within_80 : decode b_M_within 80 = .ok (.getfield 42, 3) := by decide +kernel
theorem d_M_within_83 : decode b_M_within 83 = .ok (.imul, 1) := by decide +kernel
theorem d_M_within_84 : decode b_M_within 84 = .ok (.if_icmp .ge 87, 3) := by decide +kernel
theorem d_M_within_87 : decode b_M_within 87 = .ok (.aload_n 0, 1) := by decide +kernel
theorem d_M_within_88 : decode b_M_within 88 = .ok (.getfield 7, 3) := by decide +kernel
theorem d_M_within_91 : decode b_M_within 91 = .ok (.bipush 100, 2) := by decide +kernel
theorem d_M_within_93 : decode b_M_within 93 = .ok (.iload_n 2, 1) := by decide +kernel
theorem d_M_within_94 : decode b_M_within 94 = .ok (.imul, 1) := by decide +kernel
theorem d_M_within_95 : decode b_M_within 95 = .ok (.bipush 10, 2) := by decide +kernel
theorem d_M_within_97 : decode b_M_within 97 = .ok (.iload 4, 2) := by decide +kernel
theorem d_M_within_99 : decode b_M_within 99 = .ok (.imul, 1) := by decide +kernel
theorem d_M_within_100 : decode b_M_within 100 = .ok (.iadd, 1) := by decide +kernel
theorem d_M_within_101 : decode b_M_within 101 = .ok (.iload 5, 2) := by decide +kernel
theorem d_M_within_103 : decode b_M_within 103 = .ok (.iadd, 1) := by decide +kernel
theorem d_M_within_104 : decode b_M_within 104 = .ok (.laload, 1) := by decide +kernel
theorem d_M_within_105 : decode b_M_within 105 = .ok (.lstore 6, 2) := by decide +kernel
theorem d_M_within_107 : decode b_M_within 107 = .ok (.iload 4, 2) := by decide +kernel
theorem d_M_within_109 : decode b_M_within 109 = .ok (.iload 5, 2) := by decide +kernel
theorem d_M_within_111 : decode b_M_within 111 = .ok (.if_icmp .ne 21, 3) := by decide +kernel
theorem d_M_within_114 : decode b_M_within 114 = .ok (.lload 6, 2) := by decide +kernel
theorem d_M_within_116 : decode b_M_within 116 = .ok (.ldc2_w 46, 3) := by decide +kernel
theorem d_M_within_119 : decode b_M_within 119 = .ok (.lcmp, 1) := by decide +kernel
theorem d_M_within_120 : decode b_M_within 120 = .ok (.ifCond .eq 12, 3) := by decide +kernel
theorem d_M_within_123 : decode b_M_within 123 = .ok (.ldc2_w 51, 3) := by decide +kernel
theorem d_M_within_126 : decode b_M_within 126 = .ok (.lload 6, 2) := by decide +kernel
theorem d_M_within_128 : decode b_M_within 128 = .ok (.lmul, 1) := by decide +kernel
theorem d_M_within_129 : decode b_M_within 129 = .ok (.goto 5, 3) := by decide +kernel
theorem d_M_within_132 : decode b_M_within 132 = .ok (.lload 6, 2) := by decide +kernel
theorem d_M_within_134 : decode b_M_within 134 = .ok (.lstore 8, 2) := by decide +kernel
theorem d_M_within_136 : decode b_M_within 136 = .ok (.iload_n 3, 1) := by decide +kernel
theorem d_M_within_137 : decode b_M_within 137 = .ok (.ifCond .eq 26, 3) := by decide +kernel
theorem d_M_within_140 : decode b_M_within 140 = .ok (.aload_n 0, 1) := by decide +kernel
theorem d_M_within_141 : decode b_M_within 141 = .ok (.getfield 17, 3) := by decide +kernel
theorem d_M_within_144 : decode b_M_within 144 = .ok (.bipush 10, 2) := by decide +kernel
theorem d_M_within_146 : decode b_M_within 146 = .ok (.iload 4, 2) := by decide +kernel
theorem d_M_within_148 : decode b_M_within 148 = .ok (.imul, 1) := by decide +kernel
theorem d_M_within_149 : decode b_M_within 149 = .ok (.iload 5, 2) := by decide +kernel
theorem d_M_within_151 : decode b_M_within 151 = .ok (.iadd, 1) := by decide +kernel
theorem d_M_within_152 : decode b_M_within 152 = .ok (.laload, 1) := by decide +kernel
theorem d_M_within_153 : decode b_M_within 153 = .ok (.lload 8, 2) := by decide +kernel
theorem d_M_within_155 : decode b_M_within 155 = .ok (.lcmp, 1) := by decide +kernel
theorem d_M_within_156 : decode b_M_within 156 = .ok (.ifCond .gt 7, 3) := by decide +kernel
theorem d_M_within_159 : decode b_M_within 159 = .ok (.iconst 1, 1) := by decide +kernel
theorem d_M_within_160 : decode b_M_within 160 = .ok (.goto 4, 3) := by decide +kernel
theorem d_M_within_163 : decode b_M_within 163 = .ok (.iconst 0, 1) := by decide +kernel
theorem d_M_within_164 : decode b_M_within 164 = .ok (.istore_n 3, 1) := by decide +kernel
theorem d_M_within_165 : decode b_M_within 165 = .ok (.iinc 5 1, 3) := by decide +kernel
theorem d_M_within_168 : decode b_M_within 168 = .ok (.goto (-92), 3) := by decide +kernel
theorem d_M_within_171 : decode b_M_within 171 = .ok (.iinc 4 1, 3) := by decide +kernel
theorem d_M_within_174 : decode b_M_within 174 = .ok (.goto (-112), 3) := by decide +kernel
theorem d_M_within_177 : decode b_M_within 177 = .ok (.iload_n 3, 1) := by decide +kernel
theorem d_M_within_178 : decode b_M_within 178 = .ok (.ireturn, 1) := by decide +kernel
theorem d_M_put_0 : decode b_M_put 0 = .ok (.aload_n 0, 1) := by decide +kernel
theorem d_M_put_1 : decode b_M_put 1 = .ok (.aload_n 0, 1) := by decide +kernel
theorem d_M_put_2 : decode b_M_put 2 = .ok (.iload_n 1, 1) := by decide +kernel
theorem d_M_put_3 : decode b_M_put 3 = .ok (.invokevirtual 132, 3) := by decide +kernel
theorem d_M_put_6 : decode b_M_put 6 = .ok (.ifCond .ne 7, 3) := by decide +kernel
theorem d_M_put_9 : decode b_M_put 9 = .ok (.iconst 1, 1) := by decide +kernel
theorem d_M_put_10 : decode b_M_put 10 = .ok (.goto 15, 3) := by decide +kernel
theorem d_M_put_13 : decode b_M_put 13 = .ok (.lload_n 2, 1) := by decide +kernel
theorem d_M_put_14 : decode b_M_put 14 = .ok (.invokestatic 94, 3) := by decide +kernel
theorem d_M_put_17 : decode b_M_put 17 = .ok (.ifCond .ne 7, 3) := by decide +kernel
theorem d_M_put_20 : decode b_M_put 20 = .ok (.iconst 2, 1) := by decide +kernel
theorem d_M_put_21 : decode b_M_put 21 = .ok (.goto 4, 3) := by decide +kernel
theorem d_M_put_24 : decode b_M_put 24 = .ok (.iconst 0, 1) := by decide +kernel
theorem d_M_put_25 : decode b_M_put 25 = .ok (.putfield 48, 3) := by decide +kernel
theorem d_M_put_28 : decode b_M_put 28 = .ok (.aload_n 0, 1) := by decide +kernel
theorem d_M_put_29 : decode b_M_put 29 = .ok (.getfield 48, 3) := by decide +kernel
theorem d_M_put_32 : decode b_M_put 32 = .ok (.ifCond .le 5, 3) := by decide +kernel
theorem d_M_put_35 : decode b_M_put 35 = .ok (.lconst 0, 1) := by decide +kernel
theorem d_M_put_36 : decode b_M_put 36 = .ok (.lreturn, 1) := by decide +kernel
theorem d_M_put_37 : decode b_M_put 37 = .ok (.aload_n 0, 1) := by decide +kernel
theorem d_M_put_38 : decode b_M_put 38 = .ok (.getfield 26, 3) := by decide +kernel
theorem d_M_put_41 : decode b_M_put 41 = .ok (.iload_n 1, 1) := by decide +kernel
theorem d_M_put_42 : decode b_M_put 42 = .ok (.laload, 1) := by decide +kernel
theorem d_M_put_43 : decode b_M_put 43 = .ok (.lstore 4, 2) := by decide +kernel
theorem d_M_put_45 : decode b_M_put 45 = .ok (.aload_n 0, 1) := by decide +kernel
theorem d_M_put_46 : decode b_M_put 46 = .ok (.getfield 26, 3) := by decide +kernel
theorem d_M_put_49 : decode b_M_put 49 = .ok (.iload_n 1, 1) := by decide +kernel
theorem d_M_put_50 : decode b_M_put 50 = .ok (.lload_n 2, 1) := by decide +kernel
theorem d_M_put_51 : decode b_M_put 51 = .ok (.lastore, 1) := by decide +kernel
theorem d_M_put_52 : decode b_M_put 52 = .ok (.lload 4, 2) := by decide +kernel
theorem d_M_put_54 : decode b_M_put 54 = .ok (.lreturn, 1) := by decide +kernel
theorem d_M_point_0 : decode b_M_point 0 = .ok (.aload_n 0, 1) := by decide +kernel
theorem d_M_point_1 : decode b_M_point 1 = .ok (.aload_n 0, 1) := by decide +kernel
theorem d_M_point_2 : decode b_M_point 2 = .ok (.iload_n 1, 1) := by decide +kernel
theorem d_M_point_3 : decode b_M_point 3 = .ok (.invokevirtual 132, 3) := by decide +kernel
theorem d_M_point_6 : decode b_M_point 6 = .ok (.ifCond .eq 7, 3) := by decide +kernel
theorem d_M_point_9 : decode b_M_point 9 = .ok (.iconst 0, 1) := by decide +kernel
theorem d_M_point_10 : decode b_M_point 10 = .ok (.goto 4, 3) := by decide +kernel
theorem d_M_point_13 : decode b_M_point 13 = .ok (.iconst 1, 1) := by decide +kernel
theorem d_M_point_14 : decode b_M_point 14 = .ok (.putfield 48, 3) := by decide +kernel
theorem d_M_point_17 : decode b_M_point 17 = .ok (.aload_n 0, 1) := by decide +kernel
theorem d_M_point_18 : decode b_M_point 18 = .ok (.getfield 48, 3) := by decide +kernel
theorem d_M_point_21 : decode b_M_point 21 = .ok (.ifCond .le 7, 3) := by decide +kernel
theorem d_M_point_24 : decode b_M_point 24 = .ok (.lconst 0, 1) := by decide +kernel
theorem d_M_point_25 : decode b_M_point 25 = .ok (.goto 9, 3) := by decide +kernel
theorem d_M_point_28 : decode b_M_point 28 = .ok (.aload_n 0, 1) := by decide +kernel
theorem d_M_point_29 : decode b_M_point 29 = .ok (.getfield 26, 3) := by decide +kernel
theorem d_M_point_32 : decode b_M_point 32 = .ok (.iload_n 1, 1) := by decide +kernel
theorem d_M_point_33 : decode b_M_point 33 = .ok (.laload, 1) := by decide +kernel
theorem d_M_point_34 : decode b_M_point 34 = .ok (.lreturn, 1) := by decide +kernel
theorem d_M_valueAt_0 : decode b_M_valueAt 0 = .ok (.iload_n 1, 1) := by decide +kernel
theorem d_M_valueAt_1 : decode b_M_valueAt 1 = .ok (.iconst 2, 1) := by decide +kernel
theorem d_M_valueAt_2 : decode b_M_valueAt 2 = .ok (.irem, 1) := by decide +kernel
theorem d_M_valueAt_3 : decode b_M_valueAt 3 = .ok (.ifCond .ne 16, 3) := by decide +kernel
theorem d_M_valueAt_6 : decode b_M_valueAt 6 = .ok (.aload_n 0, 1) := by decide +kernel
theorem d_M_valueAt_7 : decode b_M_valueAt 7 = .ok (.getfield 26, 3) := by decide +kernel
theorem d_M_valueAt_10 : decode b_M_valueAt 10 = .ok (.iload_n 1, 1) := by decide +kernel
theorem d_M_valueAt_11 : decode b_M_valueAt 11 = .ok (.iconst 2, 1) := by decide +kernel
theorem d_M_valueAt_12 : decode b_M_valueAt 12 = .ok (.idiv, 1) := by decide +kernel
theorem d_M_valueAt_13 : decode b_M_valueAt 13 = .ok (.iconst 1, 1) := by decide +kernel
theorem d_M_valueAt_14 : decode b_M_valueAt 14 = .ok (.iadd, 1) := by decide +kernel
theorem d_M_valueAt_15 : decode b_M_valueAt 15 = .ok (.laload, 1) := by decide +kernel
theorem d_M_valueAt_16 : decode b_M_valueAt 16 = .ok (.goto 14, 3) := by decide +kernel
theorem d_M_valueAt_19 : decode b_M_valueAt 19 = .ok (.aload_n 0, 1) := by decide +kernel
theorem d_M_valueAt_20 : decode b_M_valueAt 20 = .ok (.getfield 26, 3) := by decide +kernel
theorem d_M_valueAt_23 : decode b_M_valueAt 23 = .ok (.iload_n 1, 1) := by decide +kernel
theorem d_M_valueAt_24 : decode b_M_valueAt 24 = .ok (.iconst 2, 1) := by decide +kernel
theorem d_M_valueAt_25 : decode b_M_valueAt 25 = .ok (.idiv, 1) := by decide +kernel
theorem d_M_valueAt_26 : decode b_M_valueAt 26 = .ok (.iconst 1, 1) := by decide +kernel
theorem d_M_valueAt_27 : decode b_M_valueAt 27 = .ok (.iadd, 1) := by decide +kernel
theorem d_M_valueAt_28 : decode b_M_valueAt 28 = .ok (.laload, 1) := by decide +kernel
theorem d_M_valueAt_29 : decode b_M_valueAt 29 = .ok (.lneg, 1) := by decide +kernel
theorem d_M_valueAt_30 : decode b_M_valueAt 30 = .ok (.lreturn, 1) := by decide +kernel
theorem d_M_has_0 : decode b_M_has 0 = .ok (.aload_n 0, 1) := by decide +kernel
theorem d_M_has_1 : decode b_M_has 1 = .ok (.aload_n 0, 1) := by decide +kernel
theorem d_M_has_2 : decode b_M_has 2 = .ok (.iload_n 1, 1) := by decide +kernel
theorem d_M_has_3 : decode b_M_has 3 = .ok (.invokevirtual 83, 3) := by decide +kernel
theorem d_M_has_6 : decode b_M_has 6 = .ok (.ifCond .eq 7, 3) := by decide +kernel
theorem d_M_has_9 : decode b_M_has 9 = .ok (.iconst 0, 1) := by decide +kernel
theorem d_M_has_10 : decode b_M_has 10 = .ok (.goto 4, 3) := by decide +kernel
theorem d_M_has_13 : decode b_M_has 13 = .ok (.iconst 1, 1) := by decide +kernel
theorem d_M_has_14 : decode b_M_has 14 = .ok (.putfield 48, 3) := by decide +kernel
theorem d_M_has_17 : decode b_M_has 17 = .ok (.aload_n 0, 1) := by decide +kernel
theorem d_M_has_18 : decode b_M_has 18 = .ok (.getfield 48, 3) := by decide +kernel
theorem d_M_has_21 : decode b_M_has 21 = .ok (.ifCond .ne 16, 3) := by decide +kernel
theorem d_M_has_24 : decode b_M_has 24 = .ok (.aload_n 0, 1) := by decide +kernel
theorem d_M_has_25 : decode b_M_has 25 = .ok (.getfield 13, 3) := by decide +kernel
theorem d_M_has_28 : decode b_M_has 28 = .ok (.iload_n 1, 1) := by decide +kernel
theorem d_M_has_29 : decode b_M_has 29 = .ok (.baload, 1) := by decide +kernel
theorem d_M_has_30 : decode b_M_has 30 = .ok (.ifCond .ne 7, 3) := by decide +kernel
theorem d_M_has_33 : decode b_M_has 33 = .ok (.iconst 1, 1) := by decide +kernel
theorem d_M_has_34 : decode b_M_has 34 = .ok (.goto 4, 3) := by decide +kernel
theorem d_M_has_37 : decode b_M_has 37 = .ok (.iconst 0, 1) := by decide +kernel
theorem d_M_has_38 : decode b_M_has 38 = .ok (.istore_n 2, 1) := by decide +kernel
theorem d_M_has_39 : decode b_M_has 39 = .ok (.iconst 0, 1) := by decide +kernel
theorem d_M_has_40 : decode b_M_has 40 = .ok (.istore_n 3, 1) := by decide +kernel
theorem d_M_has_41 : decode b_M_has 41 = .ok (.iload_n 3, 1) := by decide +kernel
theorem d_M_has_42 : decode b_M_has 42 = .ok (.iconst 2, 1) := by decide +kernel
theorem d_M_has_43 : decode b_M_has 43 = .ok (.aload_n 0, 1) := by decide +kernel
theorem d_M_has_44 : decode b_M_has 44 = .ok (.getfield 42, 3) := by decide +kernel
theorem d_M_has_47 : decode b_M_has 47 = .ok (.imul, 1) := by decide +kernel
theorem d_M_has_48 : decode b_M_has 48 = .ok (.if_icmp .ge 94, 3) := by decide +kernel
theorem d_M_has_51 : decode b_M_has 51 = .ok (.iload_n 2, 1) := by decide +kernel
theorem d_M_has_52 : decode b_M_has 52 = .ok (.ifCond .eq 90, 3) := by decide +kernel
theorem d_M_has_55 : decode b_M_has 55 = .ok (.iconst 0, 1) := by decide +kernel
theorem d_M_has_56 : decode b_M_has 56 = .ok (.istore 4, 2) := by decide +kernel
theorem d_M_has_58 : decode b_M_has 58 = .ok (.iload 4, 2) := by decide +kernel
theorem d_M_has_60 : decode b_M_has 60 = .ok (.iconst 2, 1) := by decide +kernel
theorem d_M_has_61 : decode b_M_has 61 = .ok (.aload_n 0, 1) := by decide +kernel
theorem d_M_has_62 : decode b_M_has 62 = .ok (.getfield 42, 3) := by decide +kernel
theorem d_M_has_65 : decode b_M_has 65 = .ok (.imul, 1) := by decide +kernel
theorem d_M_has_66 : decode b_M_has 66 = .ok (.if_icmp .ge 70, 3) := by decide +kernel
theorem d_M_has_69 : decode b_M_has 69 = .ok (.iload_n 3, 1) := by decide +kernel
theorem d_M_has_70 : decode b_M_has 70 = .ok (.iload 4, 2) := by decide +kernel
theorem d_M_has_72 : decode b_M_has 72 = .ok (.if_icmp .ne 11, 3) := by decide +kernel
theorem d_M_has_75 : decode b_M_has 75 = .ok (.aload_n 0, 1) := by decide +kernel
theorem d_M_has_76 : decode b_M_has 76 = .ok (.iload_n 3, 1) := by decide +kernel
theorem d_M_has_77 : decode b_M_has 77 = .ok (.invokevirtual 146, 3) := by decide +kernel
theorem d_M_has_80 : decode b_M_has 80 = .ok (.goto 15, 3) := by decide +kernel
theorem d_M_has_83 : decode b_M_has 83 = .ok (.aload_n 0, 1) := by decide +kernel
theorem d_M_has_84 : decode b_M_has 84 = .ok (.iload_n 3, 1) := by decide +kernel
theorem d_M_has_85 : decode b_M_has 85 = .ok (.invokevirtual 146, 3) := by decide +kernel
theorem d_M_has_88 : decode b_M_has 88 = .ok (.aload_n 0, 1) := by decide +kernel
theorem d_M_has_89 : decode b_M_has 89 = .ok (.iload 4, 2) := by decide +kernel
theorem d_M_has_91 : decode b_M_has 91 = .ok (.invokevirtual 146, 3) := by decide +kernel
theorem d_M_has_94 : decode b_M_has 94 = .ok (.ladd, 1) := by decide +kernel
theorem d_M_has_95 : decode b_M_has 95 = .ok (.lstore 5, 2) := by decide +kernel
theorem d_M_has_97 : decode b_M_has 97 = .ok (.iload_n 2, 1) := by decide +kernel
theorem d_M_has_98 : decode b_M_has 98 = .ok (.ifCond .eq 30, 3) := by decide +kernel
theorem d_M_has_101 : decode b_M_has 101 = .ok (.lload 5, 2) := by decide +kernel
theorem d_M_has_103 : decode b_M_has 103 = .ok (.aload_n 0, 1) := by decide +kernel
theorem d_M_has_104 : decode b_M_has 104 = .ok (.getfield 7, 3) := by decide +kernel
theorem d_M_has_107 : decode b_M_has 107 = .ok (.bipush 100, 2) := by decide +kernel
theorem d_M_has_109 : decode b_M_has 109 = .ok (.iload_n 1, 1) := by decide +kernel
theorem d_M_has_110 : decode b_M_has 110 = .ok (.imul, 1) := by decide +kernel
theorem d_M_has_111 : decode b_M_has 111 = .ok (.bipush 10, 2) := by decide +kernel
theorem d_M_has_113 : decode b_M_has 113 = .ok (.iload_n 3, 1) := by decide +kernel
theorem d_M_has_114 : decode b_M_has 114 = .ok (.imul, 1) := by decide +kernel
theorem d_M_has_115 : decode b_M_has 115 = .ok (.iadd, 1) := by decide +kernel
theorem d_M_has_116 : decode b_M_has 116 = .ok (.iload 4, 2) := by decide +kernel
theorem d_M_has_118 : decode b_M_has 118 = .ok (.iadd, 1) := by decide +kernel
theorem d_M_has_119 : decode b_M_has 119 = .ok (.laload, 1) := by decide +kernel
theorem d_M_has_120 : decode b_M_has 120 = .ok (.lcmp, 1) := by decide +kernel
theorem d_M_has_121 : decode b_M_has 121 = .ok (.ifCond .gt 7, 3) := by decide +kernel
theorem d_M_has_124 : decode b_M_has 124 = .ok (.iconst 1, 1) := by decide +kernel
theorem d_M_has_125 : decode b_M_has 125 = .ok (.goto 4, 3) := by decide +kernel
theorem d_M_has_128 : decode b_M_has 128 = .ok (.iconst 0, 1) := by decide +kernel
theorem d_M_has_129 : decode b_M_has 129 = .ok (.istore_n 2, 1) := by decide +kernel
theorem d_M_has_130 : decode b_M_has 130 = .ok (.iinc 4 1, 3) := by decide +kernel
theorem d_M_has_133 : decode b_M_has 133 = .ok (.goto (-75), 3) := by decide +kernel
theorem d_M_has_136 : decode b_M_has 136 = .ok (.iinc 3 1, 3) := by decide +kernel
theorem d_M_has_139 : decode b_M_has 139 = .ok (.goto (-98), 3) := by decide +kernel
theorem d_M_has_142 : decode b_M_has 142 = .ok (.iload_n 2, 1) := by decide +kernel
theorem d_M_has_143 : decode b_M_has 143 = .ok (.ireturn, 1) := by decide +kernel
theorem d_M_sample_0 : decode b_M_sample 0 = .ok (.aload_n 0, 1) := by decide +kernel
theorem d_M_sample_1 : decode b_M_sample 1 = .ok (.aload_n 0, 1) := by decide +kernel
theorem d_M_sample_2 : decode b_M_sample 2 = .ok (.iload_n 1, 1) := by decide +kernel
theorem d_M_sample_3 : decode b_M_sample 3 = .ok (.invokevirtual 83, 3) := by decide +kernel
theorem d_M_sample_6 : decode b_M_sample 6 = .ok (.ifCond .eq 7, 3) := by decide +kernel
theorem d_M_sample_9 : decode b_M_sample 9 = .ok (.iconst 0, 1) := by decide +kernel
theorem d_M_sample_10 : decode b_M_sample 10 = .ok (.goto 4, 3) := by decide +kernel
theorem d_M_sample_13 : decode b_M_sample 13 = .ok (.iconst 1, 1) := by decide +kernel
theorem d_M_sample_14 : decode b_M_sample 14 = .ok (.putfield 48, 3) := by decide +kernel
theorem d_M_sample_17 : decode b_M_sample 17 = .ok (.aload_n 0, 1) := by decide +kernel
theorem d_M_sample_18 : decode b_M_sample 18 = .ok (.getfield 48, 3) := by decide +kernel
theorem d_M_sample_21 : decode b_M_sample 21 = .ok (.ifCond .gt 11, 3) := by decide +kernel
theorem d_M_sample_24 : decode b_M_sample 24 = .ok (.aload_n 0, 1) := by decide +kernel
theorem d_M_sample_25 : decode b_M_sample 25 = .ok (.iload_n 1, 1) := by decide +kernel
theorem d_M_sample_26 : decode b_M_sample 26 = .ok (.invokevirtual 98, 3) := by decide +kernel
theorem d_M_sample_29 : decode b_M_sample 29 = .ok (.ifCond .ne 5, 3) := by decide +kernel
theorem d_M_sample_32 : decode b_M_sample 32 = .ok (.iconst 0, 1) := by decide +kernel
theorem d_M_sample_33 : decode b_M_sample 33 = .ok (.ireturn, 1) := by decide +kernel
theorem d_M_sample_34 : decode b_M_sample 34 = .ok (.iconst 1, 1) := by decide +kernel
theorem d_M_sample_35 : decode b_M_sample 35 = .ok (.istore_n 2, 1) := by decide +kernel
theorem d_M_sample_36 : decode b_M_sample 36 = .ok (.iload_n 2, 1) := by decide +kernel
theorem d_M_sample_37 : decode b_M_sample 37 = .ok (.aload_n 0, 1) := by decide +kernel
theorem d_M_sample_38 : decode b_M_sample 38 = .ok (.getfield 42, 3) := by decide +kernel
theorem d_M_sample_41 : decode b_M_sample 41 = .ok (.if_icmp .gt 91, 3) := by decide +kernel
theorem d_M_sample_44 : decode b_M_sample 44 = .ok (.aload_n 0, 1) := by decide +kernel
theorem d_M_sample_45 : decode b_M_sample 45 = .ok (.iload_n 2, 1) := by decide +kernel
theorem d_M_sample_46 : decode b_M_sample 46 = .ok (.ineg, 1) := by decide +kernel
theorem d_M_sample_47 : decode b_M_sample 47 = .ok (.iconst 0, 1) := by decide +kernel
theorem d_M_sample_48 : decode b_M_sample 48 = .ok (.invokevirtual 104, 3) := by decide +kernel
theorem d_M_sample_51 : decode b_M_sample 51 = .ok (.lstore_n 3, 1) := by decide +kernel
theorem d_M_sample_52 : decode b_M_sample 52 = .ok (.aload_n 0, 1) := by decide +kernel
theorem d_M_sample_53 : decode b_M_sample 53 = .ok (.iload_n 2, 1) := by decide +kernel
theorem d_M_sample_54 : decode b_M_sample 54 = .ok (.iconst 0, 1) := by decide +kernel
theorem d_M_sample_55 : decode b_M_sample 55 = .ok (.invokevirtual 104, 3) := by decide +kernel
theorem d_M_sample_58 : decode b_M_sample 58 = .ok (.lstore 5, 2) := by decide +kernel
theorem d_M_sample_60 : decode b_M_sample 60 = .ok (.aload_n 0, 1) := by decide +kernel
theorem d_M_sample_61 : decode b_M_sample 61 = .ok (.getfield 26, 3) := by decide +kernel
theorem d_M_sample_64 : decode b_M_sample 64 = .ok (.iload_n 2, 1) := by decide +kernel
theorem d_M_sample_65 : decode b_M_sample 65 = .ok (.lload_n 3, 1) := by decide +kernel
theorem d_M_sample_66 : decode b_M_sample 66 = .ok (.ldc2_w 46, 3) := by decide +kernel
theorem d_M_sample_69 : decode b_M_sample 69 = .ok (.lcmp, 1) := by decide +kernel
theorem d_M_sample_70 : decode b_M_sample 70 = .ok (.ifCond .eq 8, 3) := by decide +kernel
theorem d_M_sample_73 : decode b_M_sample 73 = .ok (.lload_n 3, 1) := by decide +kernel
theorem d_M_sample_74 : decode b_M_sample 74 = .ok (.lneg, 1) := by decide +kernel
theorem d_M_sample_75 : decode b_M_sample 75 = .ok (.goto 18, 3) := by decide +kernel
theorem d_M_sample_78 : decode b_M_sample 78 = .ok (.lload 5, 2) := by decide +kernel
theorem d_M_sample_80 : decode b_M_sample 80 = .ok (.ldc2_w 46, 3) := by decide +kernel
theorem d_M_sample_83 : decode b_M_sample 83 = .ok (.lcmp, 1) := by decide +kernel
theorem d_M_sample_84 : decode b_M_sample 84 = .ok (.ifCond .eq 8, 3) := by decide +kernel
theorem d_M_sample_87 : decode b_M_sample 87 = .ok (.lload 5, 2) := by decide +kernel
theorem d_M_sample_89 : decode b_M_sample 89 = .ok (.goto 4, 3) := by decide +kernel
theorem d_M_sample_92 : decode b_M_sample 92 = .ok (.lconst 0, 1) := by decide +kernel
theorem d_M_sample_93 : decode b_M_sample 93 = .ok (.lastore, 1) := by decide +kernel
theorem d_M_sample_94 : decode b_M_sample 94 = .ok (.aload_n 0, 1) := by decide +kernel
theorem d_M_sample_95 : decode b_M_sample 95 = .ok (.iload_n 2, 1) := by decide +kernel
theorem d_M_sample_96 : decode b_M_sample 96 = .ok (.iconst 0, 1) := by decide +kernel
theorem d_M_sample_97 : decode b_M_sample 97 = .ok (.aload_n 0, 1) := by decide +kernel
theorem d_M_sample_98 : decode b_M_sample 98 = .ok (.getfield 26, 3) := by decide +kernel
theorem d_M_sample_101 : decode b_M_sample 101 = .ok (.iload_n 2, 1) := by decide +kernel
theorem d_M_sample_102 : decode b_M_sample 102 = .ok (.laload, 1) := by decide +kernel
theorem d_M_sample_103 : decode b_M_sample 103 = .ok (.invokevirtual 142, 3) := by decide +kernel
theorem d_M_sample_106 : decode b_M_sample 106 = .ok (.aload_n 0, 1) := by decide +kernel
theorem d_M_sample_107 : decode b_M_sample 107 = .ok (.iload_n 2, 1) := by decide +kernel
theorem d_M_sample_108 : decode b_M_sample 108 = .ok (.ineg, 1) := by decide +kernel
theorem d_M_sample_109 : decode b_M_sample 109 = .ok (.iconst 0, 1) := by decide +kernel
theorem d_M_sample_110 : decode b_M_sample 110 = .ok (.aload_n 0, 1) := by decide +kernel
theorem d_M_sample_111 : decode b_M_sample 111 = .ok (.getfield 26, 3) := by decide +kernel
theorem d_M_sample_114 : decode b_M_sample 114 = .ok (.iload_n 2, 1) := by decide +kernel
theorem d_M_sample_115 : decode b_M_sample 115 = .ok (.laload, 1) := by decide +kernel
theorem d_M_sample_116 : decode b_M_sample 116 = .ok (.lneg, 1) := by decide +kernel
theorem d_M_sample_117 : decode b_M_sample 117 = .ok (.invokevirtual 142, 3) := by decide +kernel
theorem d_M_sample_120 : decode b_M_sample 120 = .ok (.aload_n 0, 1) := by decide +kernel
theorem d_M_sample_121 : decode b_M_sample 121 = .ok (.invokevirtual 69, 3) := by decide +kernel
theorem d_M_sample_124 : decode b_M_sample 124 = .ok (.istore 7, 2) := by decide +kernel
theorem d_M_sample_126 : decode b_M_sample 126 = .ok (.iinc 2 1, 3) := by decide +kernel
theorem d_M_sample_129 : decode b_M_sample 129 = .ok (.goto (-93), 3) := by decide +kernel
theorem d_M_sample_132 : decode b_M_sample 132 = .ok (.iconst 1, 1) := by decide +kernel
theorem d_M_sample_133 : decode b_M_sample 133 = .ok (.ireturn, 1) := by decide +kernel
theorem d_M_termOf_0 : decode b_M_termOf 0 = .ok (.iload_n 0, 1) := by decide +kernel
theorem d_M_termOf_1 : decode b_M_termOf 1 = .ok (.iconst 2, 1) := by decide +kernel
theorem d_M_termOf_2 : decode b_M_termOf 2 = .ok (.irem, 1) := by decide +kernel
theorem d_M_termOf_3 : decode b_M_termOf 3 = .ok (.ifCond .ne 11, 3) := by decide +kernel
theorem d_M_termOf_6 : decode b_M_termOf 6 = .ok (.iload_n 0, 1) := by decide +kernel
theorem d_M_termOf_7 : decode b_M_termOf 7 = .ok (.iconst 2, 1) := by decide +kernel
theorem d_M_termOf_8 : decode b_M_termOf 8 = .ok (.idiv, 1) := by decide +kernel
theorem d_M_termOf_9 : decode b_M_termOf 9 = .ok (.iconst 1, 1) := by decide +kernel
theorem d_M_termOf_10 : decode b_M_termOf 10 = .ok (.iadd, 1) := by decide +kernel
theorem d_M_termOf_11 : decode b_M_termOf 11 = .ok (.goto 9, 3) := by decide +kernel
theorem d_M_termOf_14 : decode b_M_termOf 14 = .ok (.iload_n 0, 1) := by decide +kernel
theorem d_M_termOf_15 : decode b_M_termOf 15 = .ok (.iconst 2, 1) := by decide +kernel
theorem d_M_termOf_16 : decode b_M_termOf 16 = .ok (.idiv, 1) := by decide +kernel
theorem d_M_termOf_17 : decode b_M_termOf 17 = .ok (.iconst 1, 1) := by decide +kernel
theorem d_M_termOf_18 : decode b_M_termOf 18 = .ok (.iadd, 1) := by decide +kernel
theorem d_M_termOf_19 : decode b_M_termOf 19 = .ok (.ineg, 1) := by decide +kernel
theorem d_M_termOf_20 : decode b_M_termOf 20 = .ok (.ireturn, 1) := by decide +kernel
theorem d_M_listRow_0 : decode b_M_listRow 0 = .ok (.aload_n 0, 1) := by decide +kernel
theorem d_M_listRow_1 : decode b_M_listRow 1 = .ok (.iload_n 1, 1) := by decide +kernel
theorem d_M_listRow_2 : decode b_M_listRow 2 = .ok (.iload_n 2, 1) := by decide +kernel
theorem d_M_listRow_3 : decode b_M_listRow 3 = .ok (.invokevirtual 104, 3) := by decide +kernel
theorem d_M_listRow_6 : decode b_M_listRow 6 = .ok (.lstore_n 3, 1) := by decide +kernel
theorem d_M_listRow_7 : decode b_M_listRow 7 = .ok (.lload_n 3, 1) := by decide +kernel
theorem d_M_listRow_8 : decode b_M_listRow 8 = .ok (.ldc2_w 46, 3) := by decide +kernel
theorem d_M_listRow_11 : decode b_M_listRow 11 = .ok (.lcmp, 1) := by decide +kernel
theorem d_M_listRow_12 : decode b_M_listRow 12 = .ok (.ifCond .eq 53, 3) := by decide +kernel
theorem d_M_listRow_15 : decode b_M_listRow 15 = .ok (.aload_n 0, 1) := by decide +kernel
theorem d_M_listRow_16 : decode b_M_listRow 16 = .ok (.getfield 29, 3) := by decide +kernel
theorem d_M_listRow_19 : decode b_M_listRow 19 = .ok (.aload_n 0, 1) := by decide +kernel
theorem d_M_listRow_20 : decode b_M_listRow 20 = .ok (.getfield 150, 3) := by decide +kernel
theorem d_M_listRow_23 : decode b_M_listRow 23 = .ok (.iload_n 1, 1) := by decide +kernel
theorem d_M_listRow_24 : decode b_M_listRow 24 = .ok (.iastore, 1) := by decide +kernel
theorem d_M_listRow_25 : decode b_M_listRow 25 = .ok (.aload_n 0, 1) := by decide +kernel
theorem d_M_listRow_26 : decode b_M_listRow 26 = .ok (.getfield 33, 3) := by decide +kernel
theorem d_M_listRow_29 : decode b_M_listRow 29 = .ok (.aload_n 0, 1) := by decide +kernel
theorem d_M_listRow_30 : decode b_M_listRow 30 = .ok (.getfield 150, 3) := by decide +kernel
theorem d_M_listRow_33 : decode b_M_listRow 33 = .ok (.iload_n 2, 1) := by decide +kernel
theorem d_M_listRow_34 : decode b_M_listRow 34 = .ok (.iastore, 1) := by decide +kernel
theorem d_M_listRow_35 : decode b_M_listRow 35 = .ok (.aload_n 0, 1) := by decide +kernel
theorem d_M_listRow_36 : decode b_M_listRow 36 = .ok (.getfield 36, 3) := by decide +kernel
theorem d_M_listRow_39 : decode b_M_listRow 39 = .ok (.aload_n 0, 1) := by decide +kernel
theorem d_M_listRow_40 : decode b_M_listRow 40 = .ok (.getfield 150, 3) := by decide +kernel
theorem d_M_listRow_43 : decode b_M_listRow 43 = .ok (.lload_n 3, 1) := by decide +kernel
theorem d_M_listRow_44 : decode b_M_listRow 44 = .ok (.lastore, 1) := by decide +kernel
theorem d_M_listRow_45 : decode b_M_listRow 45 = .ok (.aload_n 0, 1) := by decide +kernel
theorem d_M_listRow_46 : decode b_M_listRow 46 = .ok (.getfield 39, 3) := by decide +kernel
theorem d_M_listRow_49 : decode b_M_listRow 49 = .ok (.aload_n 0, 1) := by decide +kernel
theorem d_M_listRow_50 : decode b_M_listRow 50 = .ok (.getfield 150, 3) := by decide +kernel
theorem d_M_listRow_53 : decode b_M_listRow 53 = .ok (.iconst 1, 1) := by decide +kernel
theorem d_M_listRow_54 : decode b_M_listRow 54 = .ok (.bastore, 1) := by decide +kernel
theorem d_M_listRow_55 : decode b_M_listRow 55 = .ok (.aload_n 0, 1) := by decide +kernel
theorem d_M_listRow_56 : decode b_M_listRow 56 = .ok (.dup, 1) := by decide +kernel
theorem d_M_listRow_57 : decode b_M_listRow 57 = .ok (.getfield 150, 3) := by decide +kernel
theorem d_M_listRow_60 : decode b_M_listRow 60 = .ok (.iconst 1, 1) := by decide +kernel
theorem d_M_listRow_61 : decode b_M_listRow 61 = .ok (.iadd, 1) := by decide +kernel
theorem d_M_listRow_62 : decode b_M_listRow 62 = .ok (.putfield 150, 3) := by decide +kernel
theorem d_M_listRow_65 : decode b_M_listRow 65 = .ok (.return_, 1) := by decide +kernel
theorem d_M_needed_0 : decode b_M_needed 0 = .ok (.aload_n 0, 1) := by decide +kernel
theorem d_M_needed_1 : decode b_M_needed 1 = .ok (.aload_n 0, 1) := by decide +kernel
theorem d_M_needed_2 : decode b_M_needed 2 = .ok (.iload_n 1, 1) := by decide +kernel
theorem d_M_needed_3 : decode b_M_needed 3 = .ok (.invokevirtual 83, 3) := by decide +kernel
theorem d_M_needed_6 : decode b_M_needed 6 = .ok (.ifCond .eq 7, 3) := by decide +kernel
theorem d_M_needed_9 : decode b_M_needed 9 = .ok (.iconst 0, 1) := by decide +kernel
theorem d_M_needed_10 : decode b_M_needed 10 = .ok (.goto 4, 3) := by decide +kernel
theorem d_M_needed_13 : decode b_M_needed 13 = .ok (.iconst 1, 1) := by decide +kernel
theorem d_M_needed_14 : decode b_M_needed 14 = .ok (.putfield 48, 3) := by decide +kernel
theorem d_M_needed_17 : decode b_M_needed 17 = .ok (.aload_n 0, 1) := by decide +kernel
theorem d_M_needed_18 : decode b_M_needed 18 = .ok (.getfield 48, 3) := by decide +kernel
theorem d_M_needed_21 : decode b_M_needed 21 = .ok (.ifCond .le 5, 3) := by decide +kernel
theorem d_M_needed_24 : decode b_M_needed 24 = .ok (.iconst 0, 1) := by decide +kernel
theorem d_M_needed_25 : decode b_M_needed 25 = .ok (.ireturn, 1) := by decide +kernel
theorem d_M_needed_26 : decode b_M_needed 26 = .ok (.aload_n 0, 1) := by decide +kernel
theorem d_M_needed_27 : decode b_M_needed 27 = .ok (.iconst 0, 1) := by decide +kernel
theorem d_M_needed_28 : decode b_M_needed 28 = .ok (.putfield 150, 3) := by decide +kernel
theorem d_M_needed_31 : decode b_M_needed 31 = .ok (.aload_n 0, 1) := by decide +kernel
theorem d_M_needed_32 : decode b_M_needed 32 = .ok (.iload_n 1, 1) := by decide +kernel
theorem d_M_needed_33 : decode b_M_needed 33 = .ok (.invokevirtual 98, 3) := by decide +kernel
theorem d_M_needed_36 : decode b_M_needed 36 = .ok (.ifCond .ne 33, 3) := by decide +kernel
theorem d_M_needed_39 : decode b_M_needed 39 = .ok (.aload_n 0, 1) := by decide +kernel
theorem d_M_needed_40 : decode b_M_needed 40 = .ok (.getfield 29, 3) := by decide +kernel
theorem d_M_needed_43 : decode b_M_needed 43 = .ok (.iconst 0, 1) := by decide +kernel
theorem d_M_needed_44 : decode b_M_needed 44 = .ok (.iconst 0, 1) := by decide +kernel
theorem d_M_needed_45 : decode b_M_needed 45 = .ok (.iastore, 1) := by decide +kernel
theorem d_M_needed_46 : decode b_M_needed 46 = .ok (.aload_n 0, 1) := by decide +kernel
theorem d_M_needed_47 : decode b_M_needed 47 = .ok (.getfield 33, 3) := by decide +kernel
theorem d_M_needed_50 : decode b_M_needed 50 = .ok (.iconst 0, 1) := by decide +kernel
theorem d_M_needed_51 : decode b_M_needed 51 = .ok (.iconst 0, 1) := by decide +kernel
theorem d_M_needed_52 : decode b_M_needed 52 = .ok (.iastore, 1) := by decide +kernel
theorem d_M_needed_53 : decode b_M_needed 53 = .ok (.aload_n 0, 1) := by decide +kernel
theorem d_M_needed_54 : decode b_M_needed 54 = .ok (.getfield 36, 3) := by decide +kernel
theorem d_M_needed_57 : decode b_M_needed 57 = .ok (.iconst 0, 1) := by decide +kernel
theorem d_M_needed_58 : decode b_M_needed 58 = .ok (.ldc2_w 153, 3) := by decide +kernel
theorem d_M_needed_61 : decode b_M_needed 61 = .ok (.lastore, 1) := by decide +kernel
theorem d_M_needed_62 : decode b_M_needed 62 = .ok (.aload_n 0, 1) := by decide +kernel
theorem d_M_needed_63 : decode b_M_needed 63 = .ok (.iconst 1, 1) := by decide +kernel
theorem d_M_needed_64 : decode b_M_needed 64 = .ok (.putfield 150, 3) := by decide +kernel
theorem d_M_needed_67 : decode b_M_needed 67 = .ok (.iconst 1, 1) := by decide +kernel
theorem d_M_needed_68 : decode b_M_needed 68 = .ok (.ireturn, 1) := by decide +kernel
theorem d_M_needed_69 : decode b_M_needed 69 = .ok (.iconst 0, 1) := by decide +kernel
theorem d_M_needed_70 : decode b_M_needed 70 = .ok (.istore_n 2, 1) := by decide +kernel
theorem d_M_needed_71 : decode b_M_needed 71 = .ok (.iload_n 2, 1) := by decide +kernel
theorem d_M_needed_72 : decode b_M_needed 72 = .ok (.iconst 2, 1) := by decide +kernel
theorem d_M_needed_73 : decode b_M_needed 73 = .ok (.aload_n 0, 1) := by decide +kernel
theorem d_M_needed_74 : decode b_M_needed 74 = .ok (.getfield 42, 3) := by decide +kernel
theorem d_M_needed_77 : decode b_M_needed 77 = .ok (.imul, 1) := by decide +kernel
theorem d_M_needed_78 : decode b_M_needed 78 = .ok (.if_icmp .ge 18, 3) := by decide +kernel
theorem d_M_needed_81 : decode b_M_needed 81 = .ok (.aload_n 0, 1) := by decide +kernel
theorem d_M_needed_82 : decode b_M_needed 82 = .ok (.iload_n 2, 1) := by decide +kernel
theorem d_M_needed_83 : decode b_M_needed 83 = .ok (.invokestatic 155, 3) := by decide +kernel
theorem d_M_needed_86 : decode b_M_needed 86 = .ok (.iconst 0, 1) := by decide +kernel
theorem d_M_needed_87 : decode b_M_needed 87 = .ok (.invokevirtual 158, 3) := by decide +kernel
theorem d_M_needed_90 : decode b_M_needed 90 = .ok (.iinc 2 1, 3) := by decide +kernel
theorem d_M_needed_93 : decode b_M_needed 93 = .ok (.goto (-22), 3) := by decide +kernel
theorem d_M_needed_96 : decode b_M_needed 96 = .ok (.iconst 0, 1) := by decide +kernel
theorem d_M_needed_97 : decode b_M_needed 97 = .ok (.istore_n 2, 1) := by decide +kernel
theorem d_M_needed_98 : decode b_M_needed 98 = .ok (.iload_n 2, 1) := by decide +kernel
theorem d_M_needed_99 : decode b_M_needed 99 = .ok (.iconst 2, 1) := by decide +kernel
theorem d_M_needed_100 : decode b_M_needed 100 = .ok (.aload_n 0, 1) := by decide +kernel
theorem d_M_needed_101 : decode b_M_needed 101 = .ok (.getfield 42, 3) := by decide +kernel
theorem d_M_needed_104 : decode b_M_needed 104 = .ok (.imul, 1) := by decide +kernel
theorem d_M_needed_105 : decode b_M_needed 105 = .ok (.if_icmp .ge 45, 3) := by decide +kernel
theorem d_M_needed_108 : decode b_M_needed 108 = .ok (.iload_n 2, 1) := by decide +kernel
theorem d_M_needed_109 : decode b_M_needed 109 = .ok (.iconst 2, 1) := by decide +kernel
theorem d_M_needed_110 : decode b_M_needed 110 = .ok (.idiv, 1) := by decide +kernel
theorem d_M_needed_111 : decode b_M_needed 111 = .ok (.iconst 2, 1) := by decide +kernel
theorem d_M_needed_112 : decode b_M_needed 112 = .ok (.imul, 1) := by decide +kernel
theorem d_M_needed_113 : decode b_M_needed 113 = .ok (.iconst 2, 1) := by decide +kernel
theorem d_M_needed_114 : decode b_M_needed 114 = .ok (.iadd, 1) := by decide +kernel
theorem d_M_needed_115 : decode b_M_needed 115 = .ok (.istore_n 3, 1) := by decide +kernel
theorem d_M_needed_116 : decode b_M_needed 116 = .ok (.iload_n 3, 1) := by decide +kernel
theorem d_M_needed_117 : decode b_M_needed 117 = .ok (.iconst 2, 1) := by decide +kernel
theorem d_M_needed_118 : decode b_M_needed 118 = .ok (.aload_n 0, 1) := by decide +kernel
theorem d_M_needed_119 : decode b_M_needed 119 = .ok (.getfield 42, 3) := by decide +kernel
theorem d_M_needed_122 : decode b_M_needed 122 = .ok (.imul, 1) := by decide +kernel
theorem d_M_needed_123 : decode b_M_needed 123 = .ok (.if_icmp .ge 21, 3) := by decide +kernel
theorem d_M_needed_126 : decode b_M_needed 126 = .ok (.aload_n 0, 1) := by decide +kernel
theorem d_M_needed_127 : decode b_M_needed 127 = .ok (.iload_n 2, 1) := by decide +kernel
theorem d_M_needed_128 : decode b_M_needed 128 = .ok (.invokestatic 155, 3) := by decide +kernel
theorem d_M_needed_131 : decode b_M_needed 131 = .ok (.iload_n 3, 1) := by decide +kernel
theorem d_M_needed_132 : decode b_M_needed 132 = .ok (.invokestatic 155, 3) := by decide +kernel
theorem d_M_needed_135 : decode b_M_needed 135 = .ok (.invokevirtual 158, 3) := by decide +kernel
theorem d_M_needed_138 : decode b_M_needed 138 = .ok (.iinc 3 1, 3) := by decide +kernel
theorem d_M_needed_141 : decode b_M_needed 141 = .ok (.goto (-25), 3) := by decide +kernel
theorem d_M_needed_144 : decode b_M_needed 144 = .ok (.iinc 2 1, 3) := by decide +kernel
theorem d_M_needed_147 : decode b_M_needed 147 = .ok (.goto (-49), 3) := by decide +kernel
theorem d_M_needed_150 : decode b_M_needed 150 = .ok (.aload_n 0, 1) := by decide +kernel
theorem d_M_needed_151 : decode b_M_needed 151 = .ok (.getfield 150, 3) := by decide +kernel
theorem d_M_needed_154 : decode b_M_needed 154 = .ok (.iconst 1, 1) := by decide +kernel
theorem d_M_needed_155 : decode b_M_needed 155 = .ok (.isub, 1) := by decide +kernel
theorem d_M_needed_156 : decode b_M_needed 156 = .ok (.istore_n 2, 1) := by decide +kernel
theorem d_M_needed_157 : decode b_M_needed 157 = .ok (.iload_n 2, 1) := by decide +kernel
theorem d_M_needed_158 : decode b_M_needed 158 = .ok (.ifCond .lt 128, 3) := by decide +kernel
theorem d_M_needed_161 : decode b_M_needed 161 = .ok (.aload_n 0, 1) := by decide +kernel
theorem d_M_needed_162 : decode b_M_needed 162 = .ok (.getfield 39, 3) := by decide +kernel
theorem d_M_needed_165 : decode b_M_needed 165 = .ok (.iload_n 2, 1) := by decide +kernel
theorem d_M_needed_166 : decode b_M_needed 166 = .ok (.iconst 0, 1) := by decide +kernel
theorem d_M_needed_167 : decode b_M_needed 167 = .ok (.bastore, 1) := by decide +kernel
theorem d_M_needed_168 : decode b_M_needed 168 = .ok (.iconst 0, 1) := by decide +kernel
theorem d_M_needed_169 : decode b_M_needed 169 = .ok (.istore_n 3, 1) := by decide +kernel
theorem d_M_needed_170 : decode b_M_needed 170 = .ok (.iload_n 3, 1) := by decide +kernel
theorem d_M_needed_171 : decode b_M_needed 171 = .ok (.bipush 100, 2) := by decide +kernel
theorem d_M_needed_173 : decode b_M_needed 173 = .ok (.if_icmp .ge 18, 3) := by decide +kernel
theorem d_M_needed_176 : decode b_M_needed 176 = .ok (.aload_n 0, 1) := by decide +kernel
theorem d_M_needed_177 : decode b_M_needed 177 = .ok (.getfield 17, 3) := by decide +kernel
theorem d_M_needed_180 : decode b_M_needed 180 = .ok (.iload_n 3, 1) := by decide +kernel
theorem d_M_needed_181 : decode b_M_needed 181 = .ok (.ldc2_w 46, 3) := by decide +kernel
theorem d_M_needed_184 : decode b_M_needed 184 = .ok (.lastore, 1) := by decide +kernel
theorem d_M_needed_185 : decode b_M_needed 185 = .ok (.iinc 3 1, 3) := by decide +kernel
theorem d_M_needed_188 : decode b_M_needed 188 = .ok (.goto (-18), 3) := by decide +kernel
theorem d_M_needed_191 : decode b_M_needed 191 = .ok (.iconst 0, 1) := by decide +kernel
theorem d_M_needed_192 : decode b_M_needed 192 = .ok (.istore_n 3, 1) := by decide +kernel
theorem d_M_needed_193 : decode b_M_needed 193 = .ok (.iload_n 3, 1) := by decide +kernel
theorem d_M_needed_194 : decode b_M_needed 194 = .ok (.aload_n 0, 1) := by decide +kernel
theorem d_M_needed_195 : decode b_M_needed 195 = .ok (.getfield 150, 3) := by decide +kernel
theorem d_M_needed_198 : decode b_M_needed 198 = .ok (.if_icmp .ge 40, 3) := by decide +kernel
theorem d_M_needed_201 : decode b_M_needed 201 = .ok (.aload_n 0, 1) := by decide +kernel
theorem d_M_needed_202 : decode b_M_needed 202 = .ok (.getfield 39, 3) := by decide +kernel
theorem d_M_needed_205 : decode b_M_needed 205 = .ok (.iload_n 3, 1) := by decide +kernel
theorem d_M_needed_206 : decode b_M_needed 206 = .ok (.baload, 1) := by decide +kernel
theorem d_M_needed_207 : decode b_M_needed 207 = .ok (.ifCond .eq 25, 3) := by decide +kernel
theorem d_M_needed_210 : decode b_M_needed 210 = .ok (.aload_n 0, 1) := by decide +kernel
theorem d_M_needed_211 : decode b_M_needed 211 = .ok (.aload_n 0, 1) := by decide +kernel
theorem d_M_needed_212 : decode b_M_needed 212 = .ok (.getfield 29, 3) := by decide +kernel
theorem d_M_needed_215 : decode b_M_needed 215 = .ok (.iload_n 3, 1) := by decide +kernel
theorem d_M_needed_216 : decode b_M_needed 216 = .ok (.iaload, 1) := by decide +kernel
theorem d_M_needed_217 : decode b_M_needed 217 = .ok (.aload_n 0, 1) := by decide +kernel
theorem d_M_needed_218 : decode b_M_needed 218 = .ok (.getfield 33, 3) := by decide +kernel
theorem d_M_needed_221 : decode b_M_needed 221 = .ok (.iload_n 3, 1) := by decide +kernel
theorem d_M_needed_222 : decode b_M_needed 222 = .ok (.iaload, 1) := by decide +kernel
theorem d_M_needed_223 : decode b_M_needed 223 = .ok (.aload_n 0, 1) := by decide +kernel
theorem d_M_needed_224 : decode b_M_needed 224 = .ok (.getfield 36, 3) := by decide +kernel
theorem d_M_needed_227 : decode b_M_needed 227 = .ok (.iload_n 3, 1) := by decide +kernel
theorem d_M_needed_228 : decode b_M_needed 228 = .ok (.laload, 1) := by decide +kernel
theorem d_M_needed_229 : decode b_M_needed 229 = .ok (.invokevirtual 142, 3) := by decide +kernel
theorem d_M_needed_232 : decode b_M_needed 232 = .ok (.iinc 3 1, 3) := by decide +kernel
theorem d_M_needed_235 : decode b_M_needed 235 = .ok (.goto (-42), 3) := by decide +kernel
theorem d_M_needed_238 : decode b_M_needed 238 = .ok (.aload_n 0, 1) := by decide +kernel
theorem d_M_needed_239 : decode b_M_needed 239 = .ok (.invokevirtual 69, 3) := by decide +kernel
theorem d_M_needed_242 : decode b_M_needed 242 = .ok (.istore_n 3, 1) := by decide +kernel
theorem d_M_needed_243 : decode b_M_needed 243 = .ok (.aload_n 0, 1) := by decide +kernel
theorem d_M_needed_244 : decode b_M_needed 244 = .ok (.getfield 39, 3) := by decide +kernel
theorem d_M_needed_247 : decode b_M_needed 247 = .ok (.iload_n 2, 1) := by decide +kernel
theorem d_M_needed_248 : decode b_M_needed 248 = .ok (.aload_n 0, 1) := by decide +kernel
theorem d_M_needed_249 : decode b_M_needed 249 = .ok (.aload_n 0, 1) := by decide +kernel
theorem d_M_needed_250 : decode b_M_needed 250 = .ok (.getfield 29, 3) := by decide +kernel
theorem d_M_needed_253 : decode b_M_needed 253 = .ok (.iload_n 2, 1) := by decide +kernel
theorem d_M_needed_254 : decode b_M_needed 254 = .ok (.iaload, 1) := by decide +kernel
theorem d_M_needed_255 : decode b_M_needed 255 = .ok (.aload_n 0, 1) := by decide +kernel
theorem d_M_needed_256 : decode b_M_needed 256 = .ok (.getfield 33, 3) := by decide +kernel
theorem d_M_needed_259 : decode b_M_needed 259 = .ok (.iload_n 2, 1) := by decide +kernel
theorem d_M_needed_260 : decode b_M_needed 260 = .ok (.iaload, 1) := by decide +kernel
theorem d_M_needed_261 : decode b_M_needed 261 = .ok (.invokevirtual 104, 3) := by decide +kernel
theorem d_M_needed_264 : decode b_M_needed 264 = .ok (.aload_n 0, 1) := by decide +kernel
theorem d_M_needed_265 : decode b_M_needed 265 = .ok (.getfield 36, 3) := by decide +kernel
theorem d_M_needed_268 : decode b_M_needed 268 = .ok (.iload_n 2, 1) := by decide +kernel
theorem d_M_needed_269 : decode b_M_needed 269 = .ok (.laload, 1) := by decide +kernel
theorem d_M_needed_270 : decode b_M_needed 270 = .ok (.lcmp, 1) := by decide +kernel
theorem d_M_needed_271 : decode b_M_needed 271 = .ok (.ifCond .le 7, 3) := by decide +kernel
theorem d_M_needed_274 : decode b_M_needed 274 = .ok (.iconst 1, 1) := by decide +kernel
theorem d_M_needed_275 : decode b_M_needed 275 = .ok (.goto 4, 3) := by decide +kernel
theorem d_M_needed_278 : decode b_M_needed 278 = .ok (.iconst 0, 1) := by decide +kernel
theorem d_M_needed_279 : decode b_M_needed 279 = .ok (.bastore, 1) := by decide +kernel
theorem d_M_needed_280 : decode b_M_needed 280 = .ok (.iinc 2 (-1), 3) := by decide +kernel
theorem d_M_needed_283 : decode b_M_needed 283 = .ok (.goto (-126), 3) := by decide +kernel
theorem d_M_needed_286 : decode b_M_needed 286 = .ok (.iconst 0, 1) := by decide +kernel
theorem d_M_needed_287 : decode b_M_needed 287 = .ok (.istore_n 2, 1) := by decide +kernel
theorem d_M_needed_288 : decode b_M_needed 288 = .ok (.iconst 0, 1) := by decide +kernel
theorem d_M_needed_289 : decode b_M_needed 289 = .ok (.istore_n 3, 1) := by decide +kernel
theorem d_M_needed_290 : decode b_M_needed 290 = .ok (.iload_n 3, 1) := by decide +kernel
theorem d_M_needed_291 : decode b_M_needed 291 = .ok (.aload_n 0, 1) := by decide +kernel
theorem d_M_needed_292 : decode b_M_needed 292 = .ok (.getfield 150, 3) := by decide +kernel
theorem d_M_needed_295 : decode b_M_needed 295 = .ok (.if_icmp .ge 57, 3) := by decide +kernel
theorem d_M_needed_298 : decode b_M_needed 298 = .ok (.aload_n 0, 1) := by decide +kernel
theorem d_M_needed_299 : decode b_M_needed 299 = .ok (.getfield 39, 3) := by decide +kernel
theorem d_M_needed_302 : decode b_M_needed 302 = .ok (.iload_n 3, 1) := by decide +kernel
theorem d_M_needed_303 : decode b_M_needed 303 = .ok (.baload, 1) := by decide +kernel
theorem d_M_needed_304 : decode b_M_needed 304 = .ok (.ifCond .eq 42, 3) := by decide +kernel
theorem d_M_needed_307 : decode b_M_needed 307 = .ok (.aload_n 0, 1) := by decide +kernel
theorem d_M_needed_308 : decode b_M_needed 308 = .ok (.getfield 29, 3) := by decide +kernel
theorem d_M_needed_311 : decode b_M_needed 311 = .ok (.iload_n 2, 1) := by decide +kernel
theorem d_M_needed_312 : decode b_M_needed 312 = .ok (.aload_n 0, 1) := by decide +kernel
theorem d_M_needed_313 : decode b_M_needed 313 = .ok (.getfield 29, 3) := by decide +kernel
theorem d_M_needed_316 : decode b_M_needed 316 = .ok (.iload_n 3, 1) := by decide +kernel
theorem d_M_needed_317 : decode b_M_needed 317 = .ok (.iaload, 1) := by decide +kernel
theorem d_M_needed_318 : decode b_M_needed 318 = .ok (.iastore, 1) := by decide +kernel
theorem d_M_needed_319 : decode b_M_needed 319 = .ok (.aload_n 0, 1) := by decide +kernel
theorem d_M_needed_320 : decode b_M_needed 320 = .ok (.getfield 33, 3) := by decide +kernel
theorem d_M_needed_323 : decode b_M_needed 323 = .ok (.iload_n 2, 1) := by decide +kernel
theorem d_M_needed_324 : decode b_M_needed 324 = .ok (.aload_n 0, 1) := by decide +kernel
theorem d_M_needed_325 : decode b_M_needed 325 = .ok (.getfield 33, 3) := by decide +kernel
theorem d_M_needed_328 : decode b_M_needed 328 = .ok (.iload_n 3, 1) := by decide +kernel
theorem d_M_needed_329 : decode b_M_needed 329 = .ok (.iaload, 1) := by decide +kernel
theorem d_M_needed_330 : decode b_M_needed 330 = .ok (.iastore, 1) := by decide +kernel
theorem d_M_needed_331 : decode b_M_needed 331 = .ok (.aload_n 0, 1) := by decide +kernel
theorem d_M_needed_332 : decode b_M_needed 332 = .ok (.getfield 36, 3) := by decide +kernel
theorem d_M_needed_335 : decode b_M_needed 335 = .ok (.iload_n 2, 1) := by decide +kernel
theorem d_M_needed_336 : decode b_M_needed 336 = .ok (.aload_n 0, 1) := by decide +kernel
theorem d_M_needed_337 : decode b_M_needed 337 = .ok (.getfield 36, 3) := by decide +kernel
theorem d_M_needed_340 : decode b_M_needed 340 = .ok (.iload_n 3, 1) := by decide +kernel
theorem d_M_needed_341 : decode b_M_needed 341 = .ok (.laload, 1) := by decide +kernel
theorem d_M_needed_342 : decode b_M_needed 342 = .ok (.lastore, 1) := by decide +kernel
theorem d_M_needed_343 : decode b_M_needed 343 = .ok (.iinc 2 1, 3) := by decide +kernel
theorem d_M_needed_346 : decode b_M_needed 346 = .ok (.iinc 3 1, 3) := by decide +kernel
theorem d_M_needed_349 : decode b_M_needed 349 = .ok (.goto (-59), 3) := by decide +kernel
theorem d_M_needed_352 : decode b_M_needed 352 = .ok (.aload_n 0, 1) := by decide +kernel
theorem d_M_needed_353 : decode b_M_needed 353 = .ok (.iload_n 2, 1) := by decide +kernel
theorem d_M_needed_354 : decode b_M_needed 354 = .ok (.putfield 150, 3) := by decide +kernel
theorem d_M_needed_357 : decode b_M_needed 357 = .ok (.aload_n 0, 1) := by decide +kernel
theorem d_M_needed_358 : decode b_M_needed 358 = .ok (.getfield 150, 3) := by decide +kernel
theorem d_M_needed_361 : decode b_M_needed 361 = .ok (.ireturn, 1) := by decide +kernel
theorem d_M_needs_0 : decode b_M_needs 0 = .ok (.aload_n 0, 1) := by decide +kernel
theorem d_M_needs_1 : decode b_M_needs 1 = .ok (.iload_n 1, 1) := by decide +kernel
theorem d_M_needs_2 : decode b_M_needs 2 = .ok (.ifCond .lt 24, 3) := by decide +kernel
theorem d_M_needs_5 : decode b_M_needs 5 = .ok (.iload_n 1, 1) := by decide +kernel
theorem d_M_needs_6 : decode b_M_needs 6 = .ok (.aload_n 0, 1) := by decide +kernel
theorem d_M_needs_7 : decode b_M_needs 7 = .ok (.getfield 150, 3) := by decide +kernel
theorem d_M_needs_10 : decode b_M_needs 10 = .ok (.if_icmp .ge 16, 3) := by decide +kernel
theorem d_M_needs_13 : decode b_M_needs 13 = .ok (.iload_n 2, 1) := by decide +kernel
theorem d_M_needs_14 : decode b_M_needs 14 = .ok (.ifCond .lt 12, 3) := by decide +kernel
theorem d_M_needs_17 : decode b_M_needs 17 = .ok (.iload_n 2, 1) := by decide +kernel
theorem d_M_needs_18 : decode b_M_needs 18 = .ok (.iconst 2, 1) := by decide +kernel
theorem d_M_needs_19 : decode b_M_needs 19 = .ok (.if_icmp .gt 7, 3) := by decide +kernel
theorem d_M_needs_22 : decode b_M_needs 22 = .ok (.iconst 0, 1) := by decide +kernel
theorem d_M_needs_23 : decode b_M_needs 23 = .ok (.goto 4, 3) := by decide +kernel
theorem d_M_needs_26 : decode b_M_needs 26 = .ok (.iconst 1, 1) := by decide +kernel
theorem d_M_needs_27 : decode b_M_needs 27 = .ok (.putfield 48, 3) := by decide +kernel
theorem d_M_needs_30 : decode b_M_needs 30 = .ok (.aload_n 0, 1) := by decide +kernel
theorem d_M_needs_31 : decode b_M_needs 31 = .ok (.getfield 48, 3) := by decide +kernel
theorem d_M_needs_34 : decode b_M_needs 34 = .ok (.ifCond .le 7, 3) := by decide +kernel
theorem d_M_needs_37 : decode b_M_needs 37 = .ok (.lconst 0, 1) := by decide +kernel
theorem d_M_needs_38 : decode b_M_needs 38 = .ok (.goto 38, 3) := by decide +kernel
theorem d_M_needs_41 : decode b_M_needs 41 = .ok (.iload_n 2, 1) := by decide +kernel
theorem d_M_needs_42 : decode b_M_needs 42 = .ok (.ifCond .ne 13, 3) := by decide +kernel
theorem d_M_needs_45 : decode b_M_needs 45 = .ok (.aload_n 0, 1) := by decide +kernel
theorem d_M_needs_46 : decode b_M_needs 46 = .ok (.getfield 29, 3) := by decide +kernel
theorem d_M_needs_49 : decode b_M_needs 49 = .ok (.iload_n 1, 1) := by decide +kernel
theorem d_M_needs_50 : decode b_M_needs 50 = .ok (.iaload, 1) := by decide +kernel
theorem d_M_needs_51 : decode b_M_needs 51 = .ok (.i2l, 1) := by decide +kernel
theorem d_M_needs_52 : decode b_M_needs 52 = .ok (.goto 24, 3) := by decide +kernel
theorem d_M_needs_55 : decode b_M_needs 55 = .ok (.iload_n 2, 1) := by decide +kernel
theorem d_M_needs_56 : decode b_M_needs 56 = .ok (.iconst 1, 1) := by decide +kernel
theorem d_M_needs_57 : decode b_M_needs 57 = .ok (.if_icmp .ne 13, 3) := by decide +kernel
theorem d_M_needs_60 : decode b_M_needs 60 = .ok (.aload_n 0, 1) := by decide +kernel
theorem d_M_needs_61 : decode b_M_needs 61 = .ok (.getfield 33, 3) := by decide +kernel
theorem d_M_needs_64 : decode b_M_needs 64 = .ok (.iload_n 1, 1) := by decide +kernel
theorem d_M_needs_65 : decode b_M_needs 65 = .ok (.iaload, 1) := by decide +kernel
theorem d_M_needs_66 : decode b_M_needs 66 = .ok (.i2l, 1) := by decide +kernel
theorem d_M_needs_67 : decode b_M_needs 67 = .ok (.goto 9, 3) := by decide +kernel
theorem d_M_needs_70 : decode b_M_needs 70 = .ok (.aload_n 0, 1) := by decide +kernel
theorem d_M_needs_71 : decode b_M_needs 71 = .ok (.getfield 36, 3) := by decide +kernel
theorem d_M_needs_74 : decode b_M_needs 74 = .ok (.iload_n 1, 1) := by decide +kernel
theorem d_M_needs_75 : decode b_M_needs 75 = .ok (.laload, 1) := by decide +kernel
theorem d_M_needs_76 : decode b_M_needs 76 = .ok (.lreturn, 1) := by decide +kernel
theorem d_M_fits_0 : decode b_M_fits 0 = .ok (.aload_n 0, 1) := by decide +kernel
theorem d_M_fits_1 : decode b_M_fits 1 = .ok (.aload_n 0, 1) := by decide +kernel
theorem d_M_fits_2 : decode b_M_fits 2 = .ok (.iload_n 1, 1) := by decide +kernel
theorem d_M_fits_3 : decode b_M_fits 3 = .ok (.invokevirtual 83, 3) := by decide +kernel
theorem d_M_fits_6 : decode b_M_fits 6 = .ok (.ifCond .eq 11, 3) := by decide +kernel
theorem d_M_fits_9 : decode b_M_fits 9 = .ok (.aload_n 0, 1) := by decide +kernel
theorem d_M_fits_10 : decode b_M_fits 10 = .ok (.iload_n 2, 1) := by decide +kernel
theorem d_M_fits_11 : decode b_M_fits 11 = .ok (.invokevirtual 91, 3) := by decide +kernel
theorem d_M_fits_14 : decode b_M_fits 14 = .ok (.ifCond .ne 7, 3) := by decide +kernel
theorem d_M_fits_17 : decode b_M_fits 17 = .ok (.iconst 1, 1) := by decide +kernel
theorem d_M_fits_18 : decode b_M_fits 18 = .ok (.goto 19, 3) := by decide +kernel
theorem d_M_fits_21 : decode b_M_fits 21 = .ok (.iload_n 3, 1) := by decide +kernel
theorem d_M_fits_22 : decode b_M_fits 22 = .ok (.iconst 1, 1) := by decide +kernel
theorem d_M_fits_23 : decode b_M_fits 23 = .ok (.if_icmp .lt 9, 3) := by decide +kernel
theorem d_M_fits_26 : decode b_M_fits 26 = .ok (.iload_n 3, 1) := by decide +kernel
theorem d_M_fits_27 : decode b_M_fits 27 = .ok (.bipush 62, 2) := by decide +kernel
theorem d_M_fits_29 : decode b_M_fits 29 = .ok (.if_icmp .le 7, 3) := by decide +kernel
theorem d_M_fits_32 : decode b_M_fits 32 = .ok (.iconst 2, 1) := by decide +kernel
theorem d_M_fits_33 : decode b_M_fits 33 = .ok (.goto 4, 3) := by decide +kernel
theorem d_M_fits_36 : decode b_M_fits 36 = .ok (.iconst 0, 1) := by decide +kernel
theorem d_M_fits_37 : decode b_M_fits 37 = .ok (.putfield 48, 3) := by decide +kernel
theorem d_M_fits_40 : decode b_M_fits 40 = .ok (.aload_n 0, 1) := by decide +kernel
theorem d_M_fits_41 : decode b_M_fits 41 = .ok (.getfield 48, 3) := by decide +kernel
theorem d_M_fits_44 : decode b_M_fits 44 = .ok (.ifCond .le 5, 3) := by decide +kernel
theorem d_M_fits_47 : decode b_M_fits 47 = .ok (.iconst 0, 1) := by decide +kernel
theorem d_M_fits_48 : decode b_M_fits 48 = .ok (.ireturn, 1) := by decide +kernel
theorem d_M_fits_49 : decode b_M_fits 49 = .ok (.aload_n 0, 1) := by decide +kernel
theorem d_M_fits_50 : decode b_M_fits 50 = .ok (.iload_n 1, 1) := by decide +kernel
theorem d_M_fits_51 : decode b_M_fits 51 = .ok (.invokevirtual 98, 3) := by decide +kernel
theorem d_M_fits_54 : decode b_M_fits 54 = .ok (.ifCond .ne 5, 3) := by decide +kernel
theorem d_M_fits_57 : decode b_M_fits 57 = .ok (.iconst 1, 1) := by decide +kernel
theorem d_M_fits_58 : decode b_M_fits 58 = .ok (.ireturn, 1) := by decide +kernel
theorem d_M_fits_59 : decode b_M_fits 59 = .ok (.lconst 1, 1) := by decide +kernel
theorem d_M_fits_60 : decode b_M_fits 60 = .ok (.iload_n 3, 1) := by decide +kernel
theorem d_M_fits_61 : decode b_M_fits 61 = .ok (.iconst 1, 1) := by decide +kernel
theorem d_M_fits_62 : decode b_M_fits 62 = .ok (.isub, 1) := by decide +kernel
theorem d_M_fits_63 : decode b_M_fits 63 = .ok (.lshl, 1) := by decide +kernel
theorem d_M_fits_64 : decode b_M_fits 64 = .ok (.lstore 4, 2) := by decide +kernel
theorem d_M_fits_66 : decode b_M_fits 66 = .ok (.aload_n 0, 1) := by decide +kernel
theorem d_M_fits_67 : decode b_M_fits 67 = .ok (.iload_n 2, 1) := by decide +kernel
theorem d_M_fits_68 : decode b_M_fits 68 = .ok (.iconst 0, 1) := by decide +kernel
theorem d_M_fits_69 : decode b_M_fits 69 = .ok (.invokevirtual 104, 3) := by decide +kernel
theorem d_M_fits_72 : decode b_M_fits 72 = .ok (.lload 4, 2) := by decide +kernel
theorem d_M_fits_74 : decode b_M_fits 74 = .ok (.lconst 1, 1) := by decide +kernel
theorem d_M_fits_75 : decode b_M_fits 75 = .ok (.lsub, 1) := by decide +kernel
theorem d_M_fits_76 : decode b_M_fits 76 = .ok (.lcmp, 1) := by decide +kernel
theorem d_M_fits_77 : decode b_M_fits 77 = .ok (.ifCond .gt 20, 3) := by decide +kernel
theorem d_M_fits_80 : decode b_M_fits 80 = .ok (.aload_n 0, 1) := by decide +kernel
theorem d_M_fits_81 : decode b_M_fits 81 = .ok (.iload_n 2, 1) := by decide +kernel
theorem d_M_fits_82 : decode b_M_fits 82 = .ok (.ineg, 1) := by decide +kernel
theorem d_M_fits_83 : decode b_M_fits 83 = .ok (.iconst 0, 1) := by decide +kernel
theorem d_M_fits_84 : decode b_M_fits 84 = .ok (.invokevirtual 104, 3) := by decide +kernel
theorem d_M_fits_87 : decode b_M_fits 87 = .ok (.lload 4, 2) := by decide +kernel
theorem d_M_fits_89 : decode b_M_fits 89 = .ok (.lcmp, 1) := by decide +kernel
theorem d_M_fits_90 : decode b_M_fits 90 = .ok (.ifCond .gt 7, 3) := by decide +kernel
theorem d_M_fits_93 : decode b_M_fits 93 = .ok (.iconst 1, 1) := by decide +kernel
theorem d_M_fits_94 : decode b_M_fits 94 = .ok (.goto 4, 3) := by decide +kernel
theorem d_M_fits_97 : decode b_M_fits 97 = .ok (.iconst 0, 1) := by decide +kernel
theorem d_M_fits_98 : decode b_M_fits 98 = .ok (.ireturn, 1) := by decide +kernel
theorem d_M_array_0 : decode b_M_array 0 = .ok (.aload_n 0, 1) := by decide +kernel
theorem d_M_array_1 : decode b_M_array 1 = .ok (.aload_n 0, 1) := by decide +kernel
theorem d_M_array_2 : decode b_M_array 2 = .ok (.iload_n 1, 1) := by decide +kernel
theorem d_M_array_3 : decode b_M_array 3 = .ok (.invokevirtual 83, 3) := by decide +kernel
theorem d_M_array_6 : decode b_M_array 6 = .ok (.ifCond .eq 28, 3) := by decide +kernel
theorem d_M_array_9 : decode b_M_array 9 = .ok (.aload_n 0, 1) := by decide +kernel
theorem d_M_array_10 : decode b_M_array 10 = .ok (.iload_n 2, 1) := by decide +kernel
theorem d_M_array_11 : decode b_M_array 11 = .ok (.invokevirtual 132, 3) := by decide +kernel
theorem d_M_array_14 : decode b_M_array 14 = .ok (.ifCond .eq 20, 3) := by decide +kernel
theorem d_M_array_17 : decode b_M_array 17 = .ok (.aload_n 0, 1) := by decide +kernel
theorem d_M_array_18 : decode b_M_array 18 = .ok (.iload_n 3, 1) := by decide +kernel
theorem d_M_array_19 : decode b_M_array 19 = .ok (.invokevirtual 132, 3) := by decide +kernel
theorem d_M_array_22 : decode b_M_array 22 = .ok (.ifCond .eq 12, 3) := by decide +kernel
theorem d_M_array_25 : decode b_M_array 25 = .ok (.iload_n 2, 1) := by decide +kernel
theorem d_M_array_26 : decode b_M_array 26 = .ok (.iload_n 3, 1) := by decide +kernel
theorem d_M_array_27 : decode b_M_array 27 = .ok (.if_icmp .eq 7, 3) := by decide +kernel
theorem d_M_array_30 : decode b_M_array 30 = .ok (.iconst 0, 1) := by decide +kernel
theorem d_M_array_31 : decode b_M_array 31 = .ok (.goto 4, 3) := by decide +kernel
theorem d_M_array_34 : decode b_M_array 34 = .ok (.iconst 1, 1) := by decide +kernel
theorem d_M_array_35 : decode b_M_array 35 = .ok (.putfield 48, 3) := by decide +kernel
theorem d_M_array_38 : decode b_M_array 38 = .ok (.aload_n 0, 1) := by decide +kernel
theorem d_M_array_39 : decode b_M_array 39 = .ok (.getfield 48, 3) := by decide +kernel
theorem d_M_array_42 : decode b_M_array 42 = .ok (.ifCond .le 5, 3) := by decide +kernel
theorem d_M_array_45 : decode b_M_array 45 = .ok (.iconst 0, 1) := by decide +kernel
theorem d_M_array_46 : decode b_M_array 46 = .ok (.ireturn, 1) := by decide +kernel
theorem d_M_array_47 : decode b_M_array 47 = .ok (.aload_n 0, 1) := by decide +kernel
theorem d_M_array_48 : decode b_M_array 48 = .ok (.iload_n 1, 1) := by decide +kernel
theorem d_M_array_49 : decode b_M_array 49 = .ok (.invokevirtual 98, 3) := by decide +kernel
theorem d_M_array_52 : decode b_M_array 52 = .ok (.ifCond .ne 5, 3) := by decide +kernel
theorem d_M_array_55 : decode b_M_array 55 = .ok (.iconst 1, 1) := by decide +kernel
theorem d_M_array_56 : decode b_M_array 56 = .ok (.ireturn, 1) := by decide +kernel
theorem d_M_array_57 : decode b_M_array 57 = .ok (.aload_n 0, 1) := by decide +kernel
theorem d_M_array_58 : decode b_M_array 58 = .ok (.iload_n 2, 1) := by decide +kernel
theorem d_M_array_59 : decode b_M_array 59 = .ok (.ineg, 1) := by decide +kernel
theorem d_M_array_60 : decode b_M_array 60 = .ok (.iconst 0, 1) := by decide +kernel
theorem d_M_array_61 : decode b_M_array 61 = .ok (.invokevirtual 104, 3) := by decide +kernel
theorem d_M_array_64 : decode b_M_array 64 = .ok (.lconst 0, 1) := by decide +kernel
theorem d_M_array_65 : decode b_M_array 65 = .ok (.lcmp, 1) := by decide +kernel
theorem d_M_array_66 : decode b_M_array 66 = .ok (.ifCond .gt 19, 3) := by decide +kernel
theorem d_M_array_69 : decode b_M_array 69 = .ok (.aload_n 0, 1) := by decide +kernel
theorem d_M_array_70 : decode b_M_array 70 = .ok (.iload_n 2, 1) := by decide +kernel
theorem d_M_array_71 : decode b_M_array 71 = .ok (.iload_n 3, 1) := by decide +kernel
theorem d_M_array_72 : decode b_M_array 72 = .ok (.ineg, 1) := by decide +kernel
theorem d_M_array_73 : decode b_M_array 73 = .ok (.invokevirtual 104, 3) := by decide +kernel
theorem d_M_array_76 : decode b_M_array 76 = .ok (.ldc2_w 153, 3) := by decide +kernel
theorem d_M_array_79 : decode b_M_array 79 = .ok (.lcmp, 1) := by decide +kernel
theorem d_M_array_80 : decode b_M_array 80 = .ok (.ifCond .gt 5, 3) := by decide +kernel
theorem d_M_array_83 : decode b_M_array 83 = .ok (.iconst 1, 1) := by decide +kernel
theorem d_M_array_84 : decode b_M_array 84 = .ok (.ireturn, 1) := by decide +kernel
theorem d_M_array_85 : decode b_M_array 85 = .ok (.aload_n 0, 1) := by decide +kernel
theorem d_M_array_86 : decode b_M_array 86 = .ok (.iload_n 2, 1) := by decide +kernel
theorem d_M_array_87 : decode b_M_array 87 = .ok (.ineg, 1) := by decide +kernel
theorem d_M_array_88 : decode b_M_array 88 = .ok (.iconst 0, 1) := by decide +kernel
theorem d_M_array_89 : decode b_M_array 89 = .ok (.lconst 0, 1) := by decide +kernel
theorem d_M_array_90 : decode b_M_array 90 = .ok (.invokevirtual 142, 3) := by decide +kernel
theorem d_M_array_93 : decode b_M_array 93 = .ok (.aload_n 0, 1) := by decide +kernel
theorem d_M_array_94 : decode b_M_array 94 = .ok (.iload_n 2, 1) := by decide +kernel
theorem d_M_array_95 : decode b_M_array 95 = .ok (.iload_n 3, 1) := by decide +kernel
theorem d_M_array_96 : decode b_M_array 96 = .ok (.ineg, 1) := by decide +kernel
theorem d_M_array_97 : decode b_M_array 97 = .ok (.ldc2_w 153, 3) := by decide +kernel
theorem d_M_array_100 : decode b_M_array 100 = .ok (.invokevirtual 142, 3) := by decide +kernel
theorem d_M_array_103 : decode b_M_array 103 = .ok (.aload_n 0, 1) := by decide +kernel
theorem d_M_array_104 : decode b_M_array 104 = .ok (.invokevirtual 69, 3) := by decide +kernel
theorem d_M_array_107 : decode b_M_array 107 = .ok (.ifCond .eq 7, 3) := by decide +kernel
theorem d_M_array_110 : decode b_M_array 110 = .ok (.iconst 0, 1) := by decide +kernel
theorem d_M_array_111 : decode b_M_array 111 = .ok (.goto 4, 3) := by decide +kernel
theorem d_M_array_114 : decode b_M_array 114 = .ok (.iconst (-1), 1) := by decide +kernel
theorem d_M_array_115 : decode b_M_array 115 = .ok (.ireturn, 1) := by decide +kernel
theorem d_M_told_0 : decode b_M_told 0 = .ok (.aload_n 0, 1) := by decide +kernel
theorem d_M_told_1 : decode b_M_told 1 = .ok (.iload_n 1, 1) := by decide +kernel
theorem d_M_told_2 : decode b_M_told 2 = .ok (.ifCond .lt 13, 3) := by decide +kernel
theorem d_M_told_5 : decode b_M_told 5 = .ok (.iload_n 1, 1) := by decide +kernel
theorem d_M_told_6 : decode b_M_told 6 = .ok (.bipush 9, 2) := by decide +kernel
theorem d_M_told_8 : decode b_M_told 8 = .ok (.if_icmp .gt 7, 3) := by decide +kernel
theorem d_M_told_11 : decode b_M_told 11 = .ok (.iconst 0, 1) := by decide +kernel
theorem d_M_told_12 : decode b_M_told 12 = .ok (.goto 4, 3) := by decide +kernel
theorem d_M_told_15 : decode b_M_told 15 = .ok (.iconst 1, 1) := by decide +kernel
theorem d_M_told_16 : decode b_M_told 16 = .ok (.putfield 48, 3) := by decide +kernel
theorem d_M_told_19 : decode b_M_told 19 = .ok (.aload_n 0, 1) := by decide +kernel
theorem d_M_told_20 : decode b_M_told 20 = .ok (.getfield 48, 3) := by decide +kernel
theorem d_M_told_23 : decode b_M_told 23 = .ok (.ifCond .le 5, 3) := by decide +kernel
theorem d_M_told_26 : decode b_M_told 26 = .ok (.iconst 0, 1) := by decide +kernel
theorem d_M_told_27 : decode b_M_told 27 = .ok (.ireturn, 1) := by decide +kernel
theorem d_M_told_28 : decode b_M_told 28 = .ok (.iconst 0, 1) := by decide +kernel
theorem d_M_told_29 : decode b_M_told 29 = .ok (.istore_n 2, 1) := by decide +kernel
theorem d_M_told_30 : decode b_M_told 30 = .ok (.iload_n 1, 1) := by decide +kernel
theorem d_M_told_31 : decode b_M_told 31 = .ok (.ifCond .ne 8, 3) := by decide +kernel
theorem d_M_told_34 : decode b_M_told 34 = .ok (.aload_n 0, 1) := by decide +kernel
theorem d_M_told_35 : decode b_M_told 35 = .ok (.getfield 42, 3) := by decide +kernel
theorem d_M_told_38 : decode b_M_told 38 = .ok (.ireturn, 1) := by decide +kernel
theorem d_M_told_39 : decode b_M_told 39 = .ok (.iload_n 1, 1) := by decide +kernel
theorem d_M_told_40 : decode b_M_told 40 = .ok (.bipush 9, 2) := by decide +kernel
theorem d_M_told_42 : decode b_M_told 42 = .ok (.if_icmp .ne 36, 3) := by decide +kernel
theorem d_M_told_45 : decode b_M_told 45 = .ok (.iconst 0, 1) := by decide +kernel
theorem d_M_told_46 : decode b_M_told 46 = .ok (.istore_n 3, 1) := by decide +kernel
theorem d_M_told_47 : decode b_M_told 47 = .ok (.iload_n 3, 1) := by decide +kernel
theorem d_M_told_48 : decode b_M_told 48 = .ok (.bipush 8, 2) := by decide +kernel
theorem d_M_told_50 : decode b_M_told 50 = .ok (.if_icmp .ge 26, 3) := by decide +kernel
theorem d_M_told_53 : decode b_M_told 53 = .ok (.iload_n 2, 1) := by decide +kernel
theorem d_M_told_54 : decode b_M_told 54 = .ok (.aload_n 0, 1) := by decide +kernel
theorem d_M_told_55 : decode b_M_told 55 = .ok (.getfield 13, 3) := by decide +kernel
theorem d_M_told_58 : decode b_M_told 58 = .ok (.iload_n 3, 1) := by decide +kernel
theorem d_M_told_59 : decode b_M_told 59 = .ok (.baload, 1) := by decide +kernel
theorem d_M_told_60 : decode b_M_told 60 = .ok (.ifCond .eq 7, 3) := by decide +kernel
theorem d_M_told_63 : decode b_M_told 63 = .ok (.iconst 1, 1) := by decide +kernel
theorem d_M_told_64 : decode b_M_told 64 = .ok (.goto 4, 3) := by decide +kernel
theorem d_M_told_67 : decode b_M_told 67 = .ok (.iconst 0, 1) := by decide +kernel
theorem d_M_told_68 : decode b_M_told 68 = .ok (.iadd, 1) := by decide +kernel
theorem d_M_told_69 : decode b_M_told 69 = .ok (.istore_n 2, 1) := by decide +kernel
theorem d_M_told_70 : decode b_M_told 70 = .ok (.iinc 3 1, 3) := by decide +kernel
theorem d_M_told_73 : decode b_M_told 73 = .ok (.goto (-26), 3) := by decide +kernel
theorem d_M_told_76 : decode b_M_told 76 = .ok (.iload_n 2, 1) := by decide +kernel
theorem d_M_told_77 : decode b_M_told 77 = .ok (.ireturn, 1) := by decide +kernel
theorem d_M_told_78 : decode b_M_told 78 = .ok (.iconst 0, 1) := by decide +kernel
theorem d_M_told_79 : decode b_M_told 79 = .ok (.istore_n 3, 1) := by decide +kernel
theorem d_M_told_80 : decode b_M_told 80 = .ok (.iload_n 3, 1) := by decide +kernel
theorem d_M_told_81 : decode b_M_told 81 = .ok (.bipush 10, 2) := by decide +kernel
theorem d_M_told_83 : decode b_M_told 83 = .ok (.if_icmp .ge 59, 3) := by decide +kernel
theorem d_M_told_86 : decode b_M_told 86 = .ok (.iload_n 3, 1) := by decide +kernel
theorem d_M_told_87 : decode b_M_told 87 = .ok (.istore 4, 2) := by decide +kernel
theorem d_M_told_89 : decode b_M_told 89 = .ok (.iload 4, 2) := by decide +kernel
theorem d_M_told_91 : decode b_M_told 91 = .ok (.bipush 10, 2) := by decide +kernel
theorem d_M_told_93 : decode b_M_told 93 = .ok (.if_icmp .ge 43, 3) := by decide +kernel
theorem d_M_told_96 : decode b_M_told 96 = .ok (.iload_n 2, 1) := by decide +kernel
theorem d_M_told_97 : decode b_M_told 97 = .ok (.aload_n 0, 1) := by decide +kernel
theorem d_M_told_98 : decode b_M_told 98 = .ok (.getfield 7, 3) := by decide +kernel
theorem d_M_told_101 : decode b_M_told 101 = .ok (.bipush 100, 2) := by decide +kernel
theorem d_M_told_103 : decode b_M_told 103 = .ok (.iload_n 1, 1) := by decide +kernel
theorem d_M_told_104 : decode b_M_told 104 = .ok (.iconst 1, 1) := by decide +kernel
theorem d_M_told_105 : decode b_M_told 105 = .ok (.isub, 1) := by decide +kernel
theorem d_M_told_106 : decode b_M_told 106 = .ok (.imul, 1) := by decide +kernel
theorem d_M_told_107 : decode b_M_told 107 = .ok (.bipush 10, 2) := by decide +kernel
theorem d_M_told_109 : decode b_M_told 109 = .ok (.iload_n 3, 1) := by decide +kernel
theorem d_M_told_110 : decode b_M_told 110 = .ok (.imul, 1) := by decide +kernel
theorem d_M_told_111 : decode b_M_told 111 = .ok (.iadd, 1) := by decide +kernel
theorem d_M_told_112 : decode b_M_told 112 = .ok (.iload 4, 2) := by decide +kernel
theorem d_M_told_114 : decode b_M_told 114 = .ok (.iadd, 1) := by decide +kernel
theorem d_M_told_115 : decode b_M_told 115 = .ok (.laload, 1) := by decide +kernel
theorem d_M_told_116 : decode b_M_told 116 = .ok (.ldc2_w 46, 3) := by decide +kernel
theorem d_M_told_119 : decode b_M_told 119 = .ok (.lcmp, 1) := by decide +kernel
theorem d_M_told_120 : decode b_M_told 120 = .ok (.ifCond .eq 7, 3) := by decide +kernel
theorem d_M_told_123 : decode b_M_told 123 = .ok (.iconst 1, 1) := by decide +kernel
theorem d_M_told_124 : decode b_M_told 124 = .ok (.goto 4, 3) := by decide +kernel
theorem d_M_told_127 : decode b_M_told 127 = .ok (.iconst 0, 1) := by decide +kernel
theorem d_M_told_128 : decode b_M_told 128 = .ok (.iadd, 1) := by decide +kernel
theorem d_M_told_129 : decode b_M_told 129 = .ok (.istore_n 2, 1) := by decide +kernel
theorem d_M_told_130 : decode b_M_told 130 = .ok (.iinc 4 1, 3) := by decide +kernel
theorem d_M_told_133 : decode b_M_told 133 = .ok (.goto (-44), 3) := by decide +kernel
theorem d_M_told_136 : decode b_M_told 136 = .ok (.iinc 3 1, 3) := by decide +kernel
theorem d_M_told_139 : decode b_M_told 139 = .ok (.goto (-59), 3) := by decide +kernel
theorem d_M_told_142 : decode b_M_told 142 = .ok (.iload_n 2, 1) := by decide +kernel
theorem d_M_told_143 : decode b_M_told 143 = .ok (.ireturn, 1) := by decide +kernel
end
