-- ===== PART A: goes FIRST, ahead of the names: the tables' words, and 'selects' of the private methods out of them =====
/-- a private method of a class that the tables say can be made, by its rows of tables_1 -/
def lw_okq (q : MethodName × Nat) : Prop := (q.1.cls ≠ "java/lang/invoke/MethodHandle" ∧ q.1.cls ≠ "java/lang/invoke/VarHandle") ∧ Cond.instantiable q.1.cls q.2 ∈ tables_1 ∧ Cond.privateMethod q.1 ∈ tables_1 ∧ Cond.instanceMethod q.1 ∈ tables_1
theorem lw_p0 : lw_okq (⟨"BreakingDisk", "nameOf", "(II)LBreakingDisk$Name;"⟩, 7) := ⟨⟨by decide +kernel, by decide +kernel⟩, List.mem_of_getElem? (i := 21) (by decide +kernel), List.mem_of_getElem? (i := 132) (by decide +kernel), List.mem_of_getElem? (i := 133) (by decide +kernel)⟩
theorem lw_p1 : lw_okq (⟨"BreakingDisk$Files", "indexOf", "(LBreakingDisk$Name;)I"⟩, 2) := ⟨⟨by decide +kernel, by decide +kernel⟩, List.mem_of_getElem? (i := 44) (by decide +kernel), List.mem_of_getElem? (i := 159) (by decide +kernel), List.mem_of_getElem? (i := 160) (by decide +kernel)⟩
theorem lw_p2 : lw_okq (⟨"BreakingDisk$Files", "insert", "(LBreakingDisk$StoredFile;)V"⟩, 2) := ⟨⟨by decide +kernel, by decide +kernel⟩, List.mem_of_getElem? (i := 44) (by decide +kernel), List.mem_of_getElem? (i := 204) (by decide +kernel), List.mem_of_getElem? (i := 205) (by decide +kernel)⟩
theorem lw_p3 : lw_okq (⟨"java/lang/Throwable", "fillInStackTrace", "(I)Ljava/lang/Throwable;"⟩, 6) := ⟨⟨by decide +kernel, by decide +kernel⟩, List.mem_of_getElem? (i := 271) (by decide +kernel), List.mem_of_getElem? (i := 269) (by decide +kernel), List.mem_of_getElem? (i := 270) (by decide +kernel)⟩
theorem lw_p4 : lw_okq (⟨"BreakingDisk", "refuseFullJournal", "()V"⟩, 7) := ⟨⟨by decide +kernel, by decide +kernel⟩, List.mem_of_getElem? (i := 21) (by decide +kernel), List.mem_of_getElem? (i := 367) (by decide +kernel), List.mem_of_getElem? (i := 368) (by decide +kernel)⟩
theorem lw_p5 : lw_okq (⟨"BreakingDisk", "perform", "(LBreakingDisk$Operation;)V"⟩, 7) := ⟨⟨by decide +kernel, by decide +kernel⟩, List.mem_of_getElem? (i := 21) (by decide +kernel), List.mem_of_getElem? (i := 407) (by decide +kernel), List.mem_of_getElem? (i := 408) (by decide +kernel)⟩
theorem lw_p6 : lw_okq (⟨"BreakingDisk$Files", "remove", "(LBreakingDisk$Name;)V"⟩, 2) := ⟨⟨by decide +kernel, by decide +kernel⟩, List.mem_of_getElem? (i := 44) (by decide +kernel), List.mem_of_getElem? (i := 415) (by decide +kernel), List.mem_of_getElem? (i := 416) (by decide +kernel)⟩
theorem lw_p7 : lw_okq (⟨"BreakingDisk", "fileToChange", "(II)LBreakingDisk$StoredFile;"⟩, 7) := ⟨⟨by decide +kernel, by decide +kernel⟩, List.mem_of_getElem? (i := 21) (by decide +kernel), List.mem_of_getElem? (i := 430) (by decide +kernel), List.mem_of_getElem? (i := 431) (by decide +kernel)⟩
theorem lw_p8 : lw_okq (⟨"BreakingDiskModel", "findHere", "(II)I"⟩, 23) := ⟨⟨by decide +kernel, by decide +kernel⟩, List.mem_of_getElem? (i := 457) (by decide +kernel), List.mem_of_getElem? (i := 551) (by decide +kernel), List.mem_of_getElem? (i := 552) (by decide +kernel)⟩
theorem lw_p9 : lw_okq (⟨"BreakingDiskModel", "entry", "()I"⟩, 23) := ⟨⟨by decide +kernel, by decide +kernel⟩, List.mem_of_getElem? (i := 457) (by decide +kernel), List.mem_of_getElem? (i := 558) (by decide +kernel), List.mem_of_getElem? (i := 559) (by decide +kernel)⟩
theorem lw_p10 : lw_okq (⟨"BreakingDiskModel", "name", "(III)V"⟩, 23) := ⟨⟨by decide +kernel, by decide +kernel⟩, List.mem_of_getElem? (i := 457) (by decide +kernel), List.mem_of_getElem? (i := 562) (by decide +kernel), List.mem_of_getElem? (i := 563) (by decide +kernel)⟩
theorem lw_p11 : lw_okq (⟨"BreakingDiskModel", "add", "(IIII)V"⟩, 23) := ⟨⟨by decide +kernel, by decide +kernel⟩, List.mem_of_getElem? (i := 457) (by decide +kernel), List.mem_of_getElem? (i := 566) (by decide +kernel), List.mem_of_getElem? (i := 567) (by decide +kernel)⟩
theorem lw_p12 : lw_okq (⟨"BreakingDiskModel", "act", "(I)V"⟩, 23) := ⟨⟨by decide +kernel, by decide +kernel⟩, List.mem_of_getElem? (i := 457) (by decide +kernel), List.mem_of_getElem? (i := 570) (by decide +kernel), List.mem_of_getElem? (i := 571) (by decide +kernel)⟩
theorem lw_p13 : lw_okq (⟨"BreakingDiskModel", "find", "(III)I"⟩, 23) := ⟨⟨by decide +kernel, by decide +kernel⟩, List.mem_of_getElem? (i := 457) (by decide +kernel), List.mem_of_getElem? (i := 574) (by decide +kernel), List.mem_of_getElem? (i := 575) (by decide +kernel)⟩
theorem lw_p14 : lw_okq (⟨"BreakingDiskModel", "hasPath", "(II)Z"⟩, 23) := ⟨⟨by decide +kernel, by decide +kernel⟩, List.mem_of_getElem? (i := 457) (by decide +kernel), List.mem_of_getElem? (i := 578) (by decide +kernel), List.mem_of_getElem? (i := 579) (by decide +kernel)⟩
theorem lw_p15 : lw_okq (⟨"BreakingDiskModel", "copy", "(II)V"⟩, 23) := ⟨⟨by decide +kernel, by decide +kernel⟩, List.mem_of_getElem? (i := 457) (by decide +kernel), List.mem_of_getElem? (i := 582) (by decide +kernel), List.mem_of_getElem? (i := 583) (by decide +kernel)⟩
def lw_privs_1 : List (MethodName × Nat) := [(⟨"BreakingDisk", "nameOf", "(II)LBreakingDisk$Name;"⟩, 7), (⟨"BreakingDisk$Files", "indexOf", "(LBreakingDisk$Name;)I"⟩, 2), (⟨"BreakingDisk$Files", "insert", "(LBreakingDisk$StoredFile;)V"⟩, 2), (⟨"java/lang/Throwable", "fillInStackTrace", "(I)Ljava/lang/Throwable;"⟩, 6), (⟨"BreakingDisk", "refuseFullJournal", "()V"⟩, 7), (⟨"BreakingDisk", "perform", "(LBreakingDisk$Operation;)V"⟩, 7), (⟨"BreakingDisk$Files", "remove", "(LBreakingDisk$Name;)V"⟩, 2), (⟨"BreakingDisk", "fileToChange", "(II)LBreakingDisk$StoredFile;"⟩, 7), (⟨"BreakingDiskModel", "findHere", "(II)I"⟩, 23), (⟨"BreakingDiskModel", "entry", "()I"⟩, 23), (⟨"BreakingDiskModel", "name", "(III)V"⟩, 23), (⟨"BreakingDiskModel", "add", "(IIII)V"⟩, 23), (⟨"BreakingDiskModel", "act", "(I)V"⟩, 23), (⟨"BreakingDiskModel", "find", "(III)I"⟩, 23), (⟨"BreakingDiskModel", "hasPath", "(II)Z"⟩, 23), (⟨"BreakingDiskModel", "copy", "(II)V"⟩, 23)]
theorem lw_r1 : ∀ q ∈ lw_privs_1, lw_okq q := List.forall_mem_cons.mpr ⟨lw_p0, List.forall_mem_cons.mpr ⟨lw_p1, List.forall_mem_cons.mpr ⟨lw_p2, List.forall_mem_cons.mpr ⟨lw_p3, List.forall_mem_cons.mpr ⟨lw_p4, List.forall_mem_cons.mpr ⟨lw_p5, List.forall_mem_cons.mpr ⟨lw_p6, List.forall_mem_cons.mpr ⟨lw_p7, List.forall_mem_cons.mpr ⟨lw_p8, List.forall_mem_cons.mpr ⟨lw_p9, List.forall_mem_cons.mpr ⟨lw_p10, List.forall_mem_cons.mpr ⟨lw_p11, List.forall_mem_cons.mpr ⟨lw_p12, List.forall_mem_cons.mpr ⟨lw_p13, List.forall_mem_cons.mpr ⟨lw_p14, List.forall_mem_cons.mpr ⟨lw_p15, fun _ h => absurd h List.not_mem_nil⟩⟩⟩⟩⟩⟩⟩⟩⟩⟩⟩⟩⟩⟩⟩⟩
theorem lw_p16 : lw_okq (⟨"BreakingDiskModel", "drop", "(I)V"⟩, 23) := ⟨⟨by decide +kernel, by decide +kernel⟩, List.mem_of_getElem? (i := 457) (by decide +kernel), List.mem_of_getElem? (i := 586) (by decide +kernel), List.mem_of_getElem? (i := 587) (by decide +kernel)⟩
theorem lw_p17 : lw_okq (⟨"BreakingDiskModel", "keep", "()V"⟩, 23) := ⟨⟨by decide +kernel, by decide +kernel⟩, List.mem_of_getElem? (i := 457) (by decide +kernel), List.mem_of_getElem? (i := 602) (by decide +kernel), List.mem_of_getElem? (i := 603) (by decide +kernel)⟩
theorem lw_p18 : lw_okq (⟨"BreakingDiskModel", "isAhead", "(II)Z"⟩, 23) := ⟨⟨by decide +kernel, by decide +kernel⟩, List.mem_of_getElem? (i := 457) (by decide +kernel), List.mem_of_getElem? (i := 622) (by decide +kernel), List.mem_of_getElem? (i := 623) (by decide +kernel)⟩
theorem lw_p19 : lw_okq (⟨"BreakingDiskModel", "rank", "(II)I"⟩, 23) := ⟨⟨by decide +kernel, by decide +kernel⟩, List.mem_of_getElem? (i := 457) (by decide +kernel), List.mem_of_getElem? (i := 626) (by decide +kernel), List.mem_of_getElem? (i := 627) (by decide +kernel)⟩
def lw_privs_2 : List (MethodName × Nat) := [(⟨"BreakingDiskModel", "drop", "(I)V"⟩, 23), (⟨"BreakingDiskModel", "keep", "()V"⟩, 23), (⟨"BreakingDiskModel", "isAhead", "(II)Z"⟩, 23), (⟨"BreakingDiskModel", "rank", "(II)I"⟩, 23)]
theorem lw_r2 : ∀ q ∈ lw_privs_2, lw_okq q := List.forall_mem_cons.mpr ⟨lw_p16, List.forall_mem_cons.mpr ⟨lw_p17, List.forall_mem_cons.mpr ⟨lw_p18, List.forall_mem_cons.mpr ⟨lw_p19, fun _ h => absurd h List.not_mem_nil⟩⟩⟩⟩
def lw_privs : List (MethodName × Nat) := lw_privs_1 ++ (lw_privs_2)
def lw_tbl : List Cond := k2_sels lw_privs ++ tables_1
theorem lw_privs_ok : ∀ q ∈ lw_privs, lw_okq q := by
  show ∀ q ∈ lw_privs_1 ++ (lw_privs_2), lw_okq q
  exact List.forall_mem_append.mpr ⟨lw_r1, lw_r2⟩
/-- the words that every contract takes along -/
def x_tb : List Cond := lw_tbl.filter goodWord
theorem x_mem (i : Nat) {w : Cond} (h : lw_tbl[i]? = some w) (g : goodWord w = true) : w ∈ x_tb := List.mem_filter.mpr ⟨List.mem_of_getElem? h, g⟩
theorem x_good {a b : Cond} (hb : b ∈ x_tb) : GoodIn (a :: x_tb) (b :: x_tb) := fun w hw => by
  have hm : w ∈ x_tb := (List.mem_cons.mp hw).elim (fun e => e ▸ hb) id
  exact ⟨List.mem_cons_of_mem _ hm, good_of_word (List.mem_filter.mp hm).2⟩
theorem x_goodT {b : Cond} (hb : b ∈ x_tb) : GoodIn x_tb (b :: x_tb) := fun w hw => by
  have hm : w ∈ x_tb := (List.mem_cons.mp hw).elim (fun e => e ▸ hb) id
  exact ⟨hm, good_of_word (List.mem_filter.mp hm).2⟩
set_option maxRecDepth 20000 in
theorem mw_0 : (Cond.initialized "BreakingDiskLaw" : Cond) ∈ x_tb := x_mem 20 rfl rfl
set_option maxRecDepth 20000 in
theorem mw_1 : (Cond.initialized "BreakingDisk" : Cond) ∈ x_tb := x_mem 21 rfl rfl
set_option maxRecDepth 20000 in
theorem mw_2 : (Cond.initialized "BreakingDisk$Tape" : Cond) ∈ x_tb := x_mem 22 rfl rfl
set_option maxRecDepth 20000 in
theorem mw_3 : (Cond.initialized "BreakingDisk$Files" : Cond) ∈ x_tb := x_mem 23 rfl rfl
set_option maxRecDepth 20000 in
theorem mw_4 : (Cond.initialized "BreakingDisk$Journal" : Cond) ∈ x_tb := x_mem 24 rfl rfl
set_option maxRecDepth 20000 in
theorem mw_5 : (Cond.initialized "BreakingDisk$Bytes" : Cond) ∈ x_tb := x_mem 25 rfl rfl
set_option maxRecDepth 20000 in
theorem mw_6 : (Cond.initialized "BreakingDiskModel" : Cond) ∈ x_tb := x_mem 26 rfl rfl
set_option maxRecDepth 20000 in
theorem mw_7 : (Cond.initialized "java/lang/Throwable" : Cond) ∈ x_tb := x_mem 27 rfl rfl
set_option maxRecDepth 20000 in
theorem mw_8 : (Cond.initialized "java/lang/Exception" : Cond) ∈ x_tb := x_mem 28 rfl rfl
set_option maxRecDepth 20000 in
theorem mw_9 : (Cond.initialized "java/lang/RuntimeException" : Cond) ∈ x_tb := x_mem 29 rfl rfl
set_option maxRecDepth 20000 in
theorem mw_10 : (Cond.initialized "java/lang/IllegalArgumentException" : Cond) ∈ x_tb := x_mem 30 rfl rfl
set_option maxRecDepth 20000 in
theorem mw_11 : (Cond.initialized "java/util/Arrays" : Cond) ∈ x_tb := x_mem 31 rfl rfl
set_option maxRecDepth 20000 in
theorem mw_12 : (Cond.initialized "java/lang/Math" : Cond) ∈ x_tb := x_mem 32 rfl rfl
set_option maxRecDepth 20000 in
theorem mw_13 : (Cond.initialized "java/lang/System" : Cond) ∈ x_tb := x_mem 33 rfl rfl
set_option maxRecDepth 20000 in
theorem mw_14 : (Cond.initialized "java/lang/IndexOutOfBoundsException" : Cond) ∈ x_tb := x_mem 34 rfl rfl
set_option maxRecDepth 20000 in
theorem mw_15 : (Cond.initialized "BreakingDisk$Name" : Cond) ∈ x_tb := x_mem 35 rfl rfl
set_option maxRecDepth 20000 in
theorem mw_16 : (Cond.initialized "java/lang/Integer" : Cond) ∈ x_tb := x_mem 36 rfl rfl
set_option maxRecDepth 20000 in
theorem mw_17 : (Cond.initialized "java/lang/IllegalStateException" : Cond) ∈ x_tb := x_mem 37 rfl rfl
set_option maxRecDepth 20000 in
theorem mw_18 : (Cond.initialized "BreakingDisk$Operation" : Cond) ∈ x_tb := x_mem 38 rfl rfl
set_option maxRecDepth 20000 in
theorem mw_19 : (Cond.initialized "BreakingDisk$StoredFile" : Cond) ∈ x_tb := x_mem 39 rfl rfl
set_option maxRecDepth 20000 in
theorem mw_20 : (Cond.classLink "BreakingDiskLaw" 8 "BreakingDisk" : Cond) ∈ x_tb := x_mem 40 rfl rfl
set_option maxRecDepth 20000 in
theorem mw_21 : (Cond.instantiable "BreakingDisk" 7 : Cond) ∈ x_tb := x_mem 41 rfl rfl
set_option maxRecDepth 20000 in
theorem mw_22 : (Cond.methodLink "BreakingDiskLaw" 34 ⟨"BreakingDisk", "<init>", "()V"⟩ : Cond) ∈ x_tb := x_mem 42 rfl rfl
set_option maxRecDepth 20000 in
theorem mw_23 : (Cond.instanceMethod ⟨"BreakingDisk", "<init>", "()V"⟩ : Cond) ∈ x_tb := x_mem 43 rfl rfl
set_option maxRecDepth 20000 in
theorem mw_24 : (Cond.code ⟨"BreakingDisk", "<init>", "()V"⟩ prog_1_method_1_code 1 none : Cond) ∈ x_tb := x_mem 44 rfl rfl
set_option maxRecDepth 20000 in
theorem mw_25 : (Cond.methodLink "BreakingDisk" 1 ⟨"java/lang/Object", "<init>", "()V"⟩ : Cond) ∈ x_tb := x_mem 45 rfl rfl
set_option maxRecDepth 20000 in
theorem mw_26 : (Cond.instanceMethod ⟨"java/lang/Object", "<init>", "()V"⟩ : Cond) ∈ x_tb := x_mem 46 rfl rfl
set_option maxRecDepth 20000 in
theorem mw_27 : (Cond.code ⟨"java/lang/Object", "<init>", "()V"⟩ object_method_1_code 1 none : Cond) ∈ x_tb := x_mem 47 rfl rfl
set_option maxRecDepth 20000 in
theorem mw_28 : (Cond.classLink "BreakingDisk" 7 "BreakingDisk$Tape" : Cond) ∈ x_tb := x_mem 48 rfl rfl
set_option maxRecDepth 20000 in
theorem mw_29 : (Cond.instantiable "BreakingDisk$Tape" 2 : Cond) ∈ x_tb := x_mem 49 rfl rfl
set_option maxRecDepth 20000 in
theorem ml_30 : (Cond.methodLinkNest "BreakingDisk" 9 ⟨"BreakingDisk$Tape", "<init>", "()V"⟩ "BreakingDisk" : Cond) ∈ lw_tbl := List.mem_of_getElem? (i := 50) rfl
set_option maxRecDepth 20000 in
theorem mw_31 : (Cond.instanceMethod ⟨"BreakingDisk$Tape", "<init>", "()V"⟩ : Cond) ∈ x_tb := x_mem 51 rfl rfl
set_option maxRecDepth 20000 in
theorem mw_32 : (Cond.code ⟨"BreakingDisk$Tape", "<init>", "()V"⟩ prog_8_method_1_code 1 none : Cond) ∈ x_tb := x_mem 52 rfl rfl
set_option maxRecDepth 20000 in
theorem mw_33 : (Cond.methodLink "BreakingDisk$Tape" 3 ⟨"java/lang/Object", "<init>", "()V"⟩ : Cond) ∈ x_tb := x_mem 53 rfl rfl
set_option maxRecDepth 20000 in
theorem mw_34 : (Cond.fieldLink "BreakingDisk$Tape" 9 "BreakingDisk$Tape" "row" "[B" : Cond) ∈ x_tb := x_mem 54 rfl rfl
set_option maxRecDepth 20000 in
theorem mw_35 : (Cond.fieldLink "BreakingDisk$Tape" 15 "BreakingDisk$Tape" "length" "I" : Cond) ∈ x_tb := x_mem 55 rfl rfl
set_option maxRecDepth 20000 in
theorem ml_36 : (Cond.fieldLinkNest "BreakingDisk" 53 "BreakingDisk$Tape" "length" "I" "BreakingDisk" : Cond) ∈ lw_tbl := List.mem_of_getElem? (i := 56) rfl
set_option maxRecDepth 20000 in
theorem mw_37 : (Cond.laysFinal "BreakingDisk$Tape" "BreakingDisk$Tape" "row" "[B" : Cond) ∈ x_tb := x_mem 57 rfl rfl
set_option maxRecDepth 20000 in
theorem mw_38 : (Cond.soleField "BreakingDisk$Tape" "row" : Cond) ∈ x_tb := x_mem 58 rfl rfl
set_option maxRecDepth 20000 in
theorem mw_39 : (Cond.lays "BreakingDisk$Tape" "BreakingDisk$Tape" "length" "I" : Cond) ∈ x_tb := x_mem 59 rfl rfl
set_option maxRecDepth 20000 in
theorem mw_40 : (Cond.soleField "BreakingDisk$Tape" "length" : Cond) ∈ x_tb := x_mem 60 rfl rfl
set_option maxRecDepth 20000 in
theorem mw_41 : (Cond.superclass "BreakingDisk$Tape" "java/lang/Object" : Cond) ∈ x_tb := x_mem 61 rfl rfl
set_option maxRecDepth 20000 in
theorem mw_42 : (Cond.arrayClass .byte : Cond) ∈ x_tb := x_mem 62 rfl rfl
set_option maxRecDepth 20000 in
theorem mw_43 : (Cond.classLink "BreakingDisk" 16 "BreakingDisk$Files" : Cond) ∈ x_tb := x_mem 63 rfl rfl
set_option maxRecDepth 20000 in
theorem mw_44 : (Cond.instantiable "BreakingDisk$Files" 2 : Cond) ∈ x_tb := x_mem 64 rfl rfl
set_option maxRecDepth 20000 in
theorem ml_45 : (Cond.methodLinkNest "BreakingDisk" 18 ⟨"BreakingDisk$Files", "<init>", "()V"⟩ "BreakingDisk" : Cond) ∈ lw_tbl := List.mem_of_getElem? (i := 65) rfl
set_option maxRecDepth 20000 in
theorem mw_46 : (Cond.instanceMethod ⟨"BreakingDisk$Files", "<init>", "()V"⟩ : Cond) ∈ x_tb := x_mem 66 rfl rfl
set_option maxRecDepth 20000 in
theorem mw_47 : (Cond.code ⟨"BreakingDisk$Files", "<init>", "()V"⟩ prog_3_method_1_code 1 none : Cond) ∈ x_tb := x_mem 67 rfl rfl
set_option maxRecDepth 20000 in
theorem mw_48 : (Cond.methodLink "BreakingDisk$Files" 3 ⟨"java/lang/Object", "<init>", "()V"⟩ : Cond) ∈ x_tb := x_mem 68 rfl rfl
set_option maxRecDepth 20000 in
theorem mw_49 : (Cond.classLink "BreakingDisk$Files" 9 "BreakingDisk$StoredFile" : Cond) ∈ x_tb := x_mem 69 rfl rfl
set_option maxRecDepth 20000 in
theorem ml_50 : (Cond.arrayOver (.object "BreakingDisk$StoredFile") : Cond) ∈ lw_tbl := List.mem_of_getElem? (i := 70) rfl
set_option maxRecDepth 20000 in
theorem mw_51 : (Cond.fieldLink "BreakingDisk$Files" 11 "BreakingDisk$Files" "row" "[LBreakingDisk$StoredFile;" : Cond) ∈ x_tb := x_mem 71 rfl rfl
set_option maxRecDepth 20000 in
theorem mw_52 : (Cond.fieldLink "BreakingDisk$Files" 17 "BreakingDisk$Files" "length" "I" : Cond) ∈ x_tb := x_mem 72 rfl rfl
set_option maxRecDepth 20000 in
theorem ml_53 : (Cond.fieldLinkNest "BreakingDisk" 151 "BreakingDisk$Files" "length" "I" "BreakingDisk" : Cond) ∈ lw_tbl := List.mem_of_getElem? (i := 73) rfl
set_option maxRecDepth 20000 in
theorem mw_54 : (Cond.laysFinal "BreakingDisk$Files" "BreakingDisk$Files" "row" "[LBreakingDisk$StoredFile;" : Cond) ∈ x_tb := x_mem 74 rfl rfl
set_option maxRecDepth 20000 in
theorem mw_55 : (Cond.soleField "BreakingDisk$Files" "row" : Cond) ∈ x_tb := x_mem 75 rfl rfl
set_option maxRecDepth 20000 in
theorem mw_56 : (Cond.lays "BreakingDisk$Files" "BreakingDisk$Files" "length" "I" : Cond) ∈ x_tb := x_mem 76 rfl rfl
set_option maxRecDepth 20000 in
theorem mw_57 : (Cond.soleField "BreakingDisk$Files" "length" : Cond) ∈ x_tb := x_mem 77 rfl rfl
set_option maxRecDepth 20000 in
theorem mw_58 : (Cond.superclass "BreakingDisk$Files" "java/lang/Object" : Cond) ∈ x_tb := x_mem 78 rfl rfl
set_option maxRecDepth 20000 in
theorem mw_59 : (Cond.classLink "BreakingDisk" 29 "BreakingDisk$Journal" : Cond) ∈ x_tb := x_mem 79 rfl rfl
set_option maxRecDepth 20000 in
theorem mw_60 : (Cond.instantiable "BreakingDisk$Journal" 2 : Cond) ∈ x_tb := x_mem 80 rfl rfl
set_option maxRecDepth 20000 in
theorem ml_61 : (Cond.methodLinkNest "BreakingDisk" 31 ⟨"BreakingDisk$Journal", "<init>", "()V"⟩ "BreakingDisk" : Cond) ∈ lw_tbl := List.mem_of_getElem? (i := 81) rfl
set_option maxRecDepth 20000 in
theorem mw_62 : (Cond.instanceMethod ⟨"BreakingDisk$Journal", "<init>", "()V"⟩ : Cond) ∈ x_tb := x_mem 82 rfl rfl
set_option maxRecDepth 20000 in
theorem mw_63 : (Cond.code ⟨"BreakingDisk$Journal", "<init>", "()V"⟩ prog_4_method_1_code 1 none : Cond) ∈ x_tb := x_mem 83 rfl rfl
set_option maxRecDepth 20000 in
theorem mw_64 : (Cond.methodLink "BreakingDisk$Journal" 3 ⟨"java/lang/Object", "<init>", "()V"⟩ : Cond) ∈ x_tb := x_mem 84 rfl rfl
set_option maxRecDepth 20000 in
theorem mw_65 : (Cond.classLink "BreakingDisk$Journal" 9 "BreakingDisk$Operation" : Cond) ∈ x_tb := x_mem 85 rfl rfl
set_option maxRecDepth 20000 in
theorem ml_66 : (Cond.arrayOver (.object "BreakingDisk$Operation") : Cond) ∈ lw_tbl := List.mem_of_getElem? (i := 86) rfl
set_option maxRecDepth 20000 in
theorem mw_67 : (Cond.fieldLink "BreakingDisk$Journal" 11 "BreakingDisk$Journal" "row" "[LBreakingDisk$Operation;" : Cond) ∈ x_tb := x_mem 87 rfl rfl
set_option maxRecDepth 20000 in
theorem mw_68 : (Cond.fieldLink "BreakingDisk$Journal" 17 "BreakingDisk$Journal" "length" "I" : Cond) ∈ x_tb := x_mem 88 rfl rfl
set_option maxRecDepth 20000 in
theorem ml_69 : (Cond.fieldLinkNest "BreakingDisk" 119 "BreakingDisk$Journal" "length" "I" "BreakingDisk" : Cond) ∈ lw_tbl := List.mem_of_getElem? (i := 89) rfl
set_option maxRecDepth 20000 in
theorem mw_70 : (Cond.laysFinal "BreakingDisk$Journal" "BreakingDisk$Journal" "row" "[LBreakingDisk$Operation;" : Cond) ∈ x_tb := x_mem 90 rfl rfl
set_option maxRecDepth 20000 in
theorem mw_71 : (Cond.soleField "BreakingDisk$Journal" "row" : Cond) ∈ x_tb := x_mem 91 rfl rfl
set_option maxRecDepth 20000 in
theorem mw_72 : (Cond.lays "BreakingDisk$Journal" "BreakingDisk$Journal" "length" "I" : Cond) ∈ x_tb := x_mem 92 rfl rfl
set_option maxRecDepth 20000 in
theorem mw_73 : (Cond.soleField "BreakingDisk$Journal" "length" : Cond) ∈ x_tb := x_mem 93 rfl rfl
set_option maxRecDepth 20000 in
theorem mw_74 : (Cond.superclass "BreakingDisk$Journal" "java/lang/Object" : Cond) ∈ x_tb := x_mem 94 rfl rfl
set_option maxRecDepth 20000 in
theorem mw_75 : (Cond.classLink "BreakingDisk" 36 "BreakingDisk$Bytes" : Cond) ∈ x_tb := x_mem 95 rfl rfl
set_option maxRecDepth 20000 in
theorem mw_76 : (Cond.instantiable "BreakingDisk$Bytes" 1 : Cond) ∈ x_tb := x_mem 96 rfl rfl
set_option maxRecDepth 20000 in
theorem mw_77 : (Cond.methodLink "BreakingDisk" 38 ⟨"BreakingDisk$Bytes", "<init>", "([B)V"⟩ : Cond) ∈ x_tb := x_mem 97 rfl rfl
set_option maxRecDepth 20000 in
theorem mw_78 : (Cond.instanceMethod ⟨"BreakingDisk$Bytes", "<init>", "([B)V"⟩ : Cond) ∈ x_tb := x_mem 98 rfl rfl
set_option maxRecDepth 20000 in
theorem mw_79 : (Cond.code ⟨"BreakingDisk$Bytes", "<init>", "([B)V"⟩ prog_2_method_1_code 2 none : Cond) ∈ x_tb := x_mem 99 rfl rfl
set_option maxRecDepth 20000 in
theorem mw_80 : (Cond.methodLink "BreakingDisk$Bytes" 3 ⟨"java/lang/Object", "<init>", "()V"⟩ : Cond) ∈ x_tb := x_mem 100 rfl rfl
set_option maxRecDepth 20000 in
theorem mw_81 : (Cond.fieldLink "BreakingDisk$Bytes" 9 "BreakingDisk$Bytes" "row" "[B" : Cond) ∈ x_tb := x_mem 101 rfl rfl
set_option maxRecDepth 20000 in
theorem mw_82 : (Cond.laysFinal "BreakingDisk$Bytes" "BreakingDisk$Bytes" "row" "[B" : Cond) ∈ x_tb := x_mem 102 rfl rfl
set_option maxRecDepth 20000 in
theorem mw_83 : (Cond.soleField "BreakingDisk$Bytes" "row" : Cond) ∈ x_tb := x_mem 103 rfl rfl
set_option maxRecDepth 20000 in
theorem mw_84 : (Cond.superclass "BreakingDisk$Bytes" "java/lang/Object" : Cond) ∈ x_tb := x_mem 104 rfl rfl
set_option maxRecDepth 20000 in
theorem mw_85 : (Cond.fieldLink "BreakingDisk" 10 "BreakingDisk" "tape" "LBreakingDisk$Tape;" : Cond) ∈ x_tb := x_mem 105 rfl rfl
set_option maxRecDepth 20000 in
theorem mw_86 : (Cond.fieldLink "BreakingDisk" 19 "BreakingDisk" "now" "LBreakingDisk$Files;" : Cond) ∈ x_tb := x_mem 106 rfl rfl
set_option maxRecDepth 20000 in
theorem mw_87 : (Cond.fieldLink "BreakingDisk" 23 "BreakingDisk" "kept" "LBreakingDisk$Files;" : Cond) ∈ x_tb := x_mem 107 rfl rfl
set_option maxRecDepth 20000 in
theorem mw_88 : (Cond.fieldLink "BreakingDisk" 26 "BreakingDisk" "told" "LBreakingDisk$Files;" : Cond) ∈ x_tb := x_mem 108 rfl rfl
set_option maxRecDepth 20000 in
theorem mw_89 : (Cond.fieldLink "BreakingDisk" 32 "BreakingDisk" "journal" "LBreakingDisk$Journal;" : Cond) ∈ x_tb := x_mem 109 rfl rfl
set_option maxRecDepth 20000 in
theorem mw_90 : (Cond.fieldLink "BreakingDisk" 41 "BreakingDisk" "currentPath" "LBreakingDisk$Bytes;" : Cond) ∈ x_tb := x_mem 110 rfl rfl
set_option maxRecDepth 20000 in
theorem mw_91 : (Cond.fieldLink "BreakingDisk" 45 "BreakingDisk" "allOperations" "I" : Cond) ∈ x_tb := x_mem 111 rfl rfl
set_option maxRecDepth 20000 in
theorem mw_92 : (Cond.laysFinal "BreakingDisk" "BreakingDisk" "tape" "LBreakingDisk$Tape;" : Cond) ∈ x_tb := x_mem 112 rfl rfl
set_option maxRecDepth 20000 in
theorem mw_93 : (Cond.soleField "BreakingDisk" "tape" : Cond) ∈ x_tb := x_mem 113 rfl rfl
set_option maxRecDepth 20000 in
theorem mw_94 : (Cond.laysFinal "BreakingDisk" "BreakingDisk" "now" "LBreakingDisk$Files;" : Cond) ∈ x_tb := x_mem 114 rfl rfl
set_option maxRecDepth 20000 in
theorem mw_95 : (Cond.soleField "BreakingDisk" "now" : Cond) ∈ x_tb := x_mem 115 rfl rfl
set_option maxRecDepth 20000 in
theorem mw_96 : (Cond.laysFinal "BreakingDisk" "BreakingDisk" "kept" "LBreakingDisk$Files;" : Cond) ∈ x_tb := x_mem 116 rfl rfl
set_option maxRecDepth 20000 in
theorem mw_97 : (Cond.soleField "BreakingDisk" "kept" : Cond) ∈ x_tb := x_mem 117 rfl rfl
set_option maxRecDepth 20000 in
theorem mw_98 : (Cond.laysFinal "BreakingDisk" "BreakingDisk" "told" "LBreakingDisk$Files;" : Cond) ∈ x_tb := x_mem 118 rfl rfl
set_option maxRecDepth 20000 in
theorem mw_99 : (Cond.soleField "BreakingDisk" "told" : Cond) ∈ x_tb := x_mem 119 rfl rfl
set_option maxRecDepth 20000 in
theorem mw_100 : (Cond.laysFinal "BreakingDisk" "BreakingDisk" "journal" "LBreakingDisk$Journal;" : Cond) ∈ x_tb := x_mem 120 rfl rfl
set_option maxRecDepth 20000 in
theorem mw_101 : (Cond.soleField "BreakingDisk" "journal" : Cond) ∈ x_tb := x_mem 121 rfl rfl
set_option maxRecDepth 20000 in
theorem mw_102 : (Cond.lays "BreakingDisk" "BreakingDisk" "currentPath" "LBreakingDisk$Bytes;" : Cond) ∈ x_tb := x_mem 122 rfl rfl
set_option maxRecDepth 20000 in
theorem mw_103 : (Cond.soleField "BreakingDisk" "currentPath" : Cond) ∈ x_tb := x_mem 123 rfl rfl
set_option maxRecDepth 20000 in
theorem mw_104 : (Cond.lays "BreakingDisk" "BreakingDisk" "allOperations" "I" : Cond) ∈ x_tb := x_mem 124 rfl rfl
set_option maxRecDepth 20000 in
theorem mw_105 : (Cond.soleField "BreakingDisk" "allOperations" : Cond) ∈ x_tb := x_mem 125 rfl rfl
set_option maxRecDepth 20000 in
theorem mw_106 : (Cond.superclass "BreakingDisk" "java/lang/Object" : Cond) ∈ x_tb := x_mem 126 rfl rfl
set_option maxRecDepth 20000 in
theorem mw_107 : (Cond.methodLink "BreakingDiskLaw" 40 ⟨"BreakingDisk", "put", "(JI)Z"⟩ : Cond) ∈ x_tb := x_mem 127 rfl rfl
set_option maxRecDepth 20000 in
theorem mw_108 : (Cond.instanceMethod ⟨"BreakingDisk", "put", "(JI)Z"⟩ : Cond) ∈ x_tb := x_mem 128 rfl rfl
set_option maxRecDepth 20000 in
theorem mw_109 : (Cond.selects "BreakingDisk" ⟨"BreakingDisk", "put", "(JI)Z"⟩ ⟨"BreakingDisk", "put", "(JI)Z"⟩ : Cond) ∈ x_tb := x_mem 129 rfl rfl
set_option maxRecDepth 20000 in
theorem mw_110 : (Cond.code ⟨"BreakingDisk", "put", "(JI)Z"⟩ prog_1_method_2_code 4 (some .boolean) : Cond) ∈ x_tb := x_mem 130 rfl rfl
set_option maxRecDepth 20000 in
theorem mw_111 : (Cond.methodLink "BreakingDisk" 49 ⟨"BreakingDisk$Tape", "append", "(JI)Z"⟩ : Cond) ∈ x_tb := x_mem 131 rfl rfl
set_option maxRecDepth 20000 in
theorem mw_112 : (Cond.instanceMethod ⟨"BreakingDisk$Tape", "append", "(JI)Z"⟩ : Cond) ∈ x_tb := x_mem 132 rfl rfl
set_option maxRecDepth 20000 in
theorem mw_113 : (Cond.selects "BreakingDisk$Tape" ⟨"BreakingDisk$Tape", "append", "(JI)Z"⟩ ⟨"BreakingDisk$Tape", "append", "(JI)Z"⟩ : Cond) ∈ x_tb := x_mem 133 rfl rfl
set_option maxRecDepth 20000 in
theorem mw_114 : (Cond.code ⟨"BreakingDisk$Tape", "append", "(JI)Z"⟩ prog_8_method_2_code 5 (some .boolean) : Cond) ∈ x_tb := x_mem 134 rfl rfl
set_option maxRecDepth 20000 in
theorem mw_115 : (Cond.methodLink "BreakingDiskLaw" 65 ⟨"BreakingDisk", "sync", "()I"⟩ : Cond) ∈ x_tb := x_mem 135 rfl rfl
set_option maxRecDepth 20000 in
theorem mw_116 : (Cond.instanceMethod ⟨"BreakingDisk", "sync", "()I"⟩ : Cond) ∈ x_tb := x_mem 136 rfl rfl
set_option maxRecDepth 20000 in
theorem mw_117 : (Cond.selects "BreakingDisk" ⟨"BreakingDisk", "sync", "()I"⟩ ⟨"BreakingDisk", "sync", "()I"⟩ : Cond) ∈ x_tb := x_mem 137 rfl rfl
set_option maxRecDepth 20000 in
theorem mw_118 : (Cond.code ⟨"BreakingDisk", "sync", "()I"⟩ prog_1_method_7_code 2 (some .int) : Cond) ∈ x_tb := x_mem 138 rfl rfl
set_option maxRecDepth 20000 in
theorem mw_119 : (Cond.methodLink "BreakingDisk" 120 ⟨"BreakingDisk$Files", "copyFrom", "(LBreakingDisk$Files;)V"⟩ : Cond) ∈ x_tb := x_mem 139 rfl rfl
set_option maxRecDepth 20000 in
theorem mw_120 : (Cond.instanceMethod ⟨"BreakingDisk$Files", "copyFrom", "(LBreakingDisk$Files;)V"⟩ : Cond) ∈ x_tb := x_mem 140 rfl rfl
set_option maxRecDepth 20000 in
theorem mw_121 : (Cond.selects "BreakingDisk$Files" ⟨"BreakingDisk$Files", "copyFrom", "(LBreakingDisk$Files;)V"⟩ ⟨"BreakingDisk$Files", "copyFrom", "(LBreakingDisk$Files;)V"⟩ : Cond) ∈ x_tb := x_mem 141 rfl rfl
set_option maxRecDepth 20000 in
theorem mw_122 : (Cond.code ⟨"BreakingDisk$Files", "copyFrom", "(LBreakingDisk$Files;)V"⟩ prog_3_method_7_code 3 none : Cond) ∈ x_tb := x_mem 142 rfl rfl
set_option maxRecDepth 20000 in
theorem mw_123 : (Cond.methodLink "BreakingDisk" 124 ⟨"BreakingDisk$Journal", "clear", "()V"⟩ : Cond) ∈ x_tb := x_mem 143 rfl rfl
set_option maxRecDepth 20000 in
theorem mw_124 : (Cond.instanceMethod ⟨"BreakingDisk$Journal", "clear", "()V"⟩ : Cond) ∈ x_tb := x_mem 144 rfl rfl
set_option maxRecDepth 20000 in
theorem mw_125 : (Cond.selects "BreakingDisk$Journal" ⟨"BreakingDisk$Journal", "clear", "()V"⟩ ⟨"BreakingDisk$Journal", "clear", "()V"⟩ : Cond) ∈ x_tb := x_mem 145 rfl rfl
set_option maxRecDepth 20000 in
theorem mw_126 : (Cond.code ⟨"BreakingDisk$Journal", "clear", "()V"⟩ prog_4_method_5_code 1 none : Cond) ∈ x_tb := x_mem 146 rfl rfl
set_option maxRecDepth 20000 in
theorem mw_127 : (Cond.methodLink "BreakingDiskLaw" 73 ⟨"BreakingDisk", "size", "(II)I"⟩ : Cond) ∈ x_tb := x_mem 147 rfl rfl
set_option maxRecDepth 20000 in
theorem mw_128 : (Cond.instanceMethod ⟨"BreakingDisk", "size", "(II)I"⟩ : Cond) ∈ x_tb := x_mem 148 rfl rfl
set_option maxRecDepth 20000 in
theorem mw_129 : (Cond.selects "BreakingDisk" ⟨"BreakingDisk", "size", "(II)I"⟩ ⟨"BreakingDisk", "size", "(II)I"⟩ : Cond) ∈ x_tb := x_mem 149 rfl rfl
set_option maxRecDepth 20000 in
theorem mw_130 : (Cond.code ⟨"BreakingDisk", "size", "(II)I"⟩ prog_1_method_9_code 4 (some .int) : Cond) ∈ x_tb := x_mem 150 rfl rfl
set_option maxRecDepth 20000 in
theorem mw_131 : (Cond.methodLink "BreakingDisk" 74 ⟨"BreakingDisk", "nameOf", "(II)LBreakingDisk$Name;"⟩ : Cond) ∈ x_tb := x_mem 151 rfl rfl
set_option maxRecDepth 20000 in
theorem ml_132 : (Cond.privateMethod ⟨"BreakingDisk", "nameOf", "(II)LBreakingDisk$Name;"⟩ : Cond) ∈ lw_tbl := List.mem_of_getElem? (i := 152) rfl
set_option maxRecDepth 20000 in
theorem mw_133 : (Cond.instanceMethod ⟨"BreakingDisk", "nameOf", "(II)LBreakingDisk$Name;"⟩ : Cond) ∈ x_tb := x_mem 153 rfl rfl
set_option maxRecDepth 20000 in
theorem mw_134 : (Cond.code ⟨"BreakingDisk", "nameOf", "(II)LBreakingDisk$Name;"⟩ prog_1_method_18_code 3 (some (.object "BreakingDisk$Name")) : Cond) ∈ x_tb := x_mem 154 rfl rfl
set_option maxRecDepth 20000 in
theorem mw_135 : (Cond.classLink "BreakingDisk" 157 "BreakingDisk$Name" : Cond) ∈ x_tb := x_mem 155 rfl rfl
set_option maxRecDepth 20000 in
theorem mw_136 : (Cond.instantiable "BreakingDisk$Name" 3 : Cond) ∈ x_tb := x_mem 156 rfl rfl
set_option maxRecDepth 20000 in
theorem mw_137 : (Cond.methodLink "BreakingDisk" 177 ⟨"BreakingDisk$Name", "<init>", "(IILBreakingDisk$Bytes;)V"⟩ : Cond) ∈ x_tb := x_mem 157 rfl rfl
set_option maxRecDepth 20000 in
theorem mw_138 : (Cond.instanceMethod ⟨"BreakingDisk$Name", "<init>", "(IILBreakingDisk$Bytes;)V"⟩ : Cond) ∈ x_tb := x_mem 158 rfl rfl
set_option maxRecDepth 20000 in
theorem mw_139 : (Cond.code ⟨"BreakingDisk$Name", "<init>", "(IILBreakingDisk$Bytes;)V"⟩ prog_5_method_1_code 4 none : Cond) ∈ x_tb := x_mem 159 rfl rfl
set_option maxRecDepth 20000 in
theorem mw_140 : (Cond.methodLink "BreakingDisk$Name" 1 ⟨"java/lang/Object", "<init>", "()V"⟩ : Cond) ∈ x_tb := x_mem 160 rfl rfl
set_option maxRecDepth 20000 in
theorem mw_141 : (Cond.fieldLink "BreakingDisk$Name" 7 "BreakingDisk$Name" "sort" "I" : Cond) ∈ x_tb := x_mem 161 rfl rfl
set_option maxRecDepth 20000 in
theorem ml_142 : (Cond.fieldLinkNest "BreakingDisk$Files" 54 "BreakingDisk$Name" "sort" "I" "BreakingDisk" : Cond) ∈ lw_tbl := List.mem_of_getElem? (i := 162) rfl
set_option maxRecDepth 20000 in
theorem mw_143 : (Cond.fieldLink "BreakingDisk$Name" 13 "BreakingDisk$Name" "time" "I" : Cond) ∈ x_tb := x_mem 163 rfl rfl
set_option maxRecDepth 20000 in
theorem ml_144 : (Cond.fieldLinkNest "BreakingDisk" 156 "BreakingDisk$Name" "time" "I" "BreakingDisk" : Cond) ∈ lw_tbl := List.mem_of_getElem? (i := 164) rfl
set_option maxRecDepth 20000 in
theorem mw_145 : (Cond.fieldLink "BreakingDisk$Name" 16 "BreakingDisk$Name" "path" "LBreakingDisk$Bytes;" : Cond) ∈ x_tb := x_mem 165 rfl rfl
set_option maxRecDepth 20000 in
theorem ml_146 : (Cond.fieldLinkNest "BreakingDisk" 161 "BreakingDisk$Name" "path" "LBreakingDisk$Bytes;" "BreakingDisk" : Cond) ∈ lw_tbl := List.mem_of_getElem? (i := 166) rfl
set_option maxRecDepth 20000 in
theorem mw_147 : (Cond.laysFinal "BreakingDisk$Name" "BreakingDisk$Name" "sort" "I" : Cond) ∈ x_tb := x_mem 167 rfl rfl
set_option maxRecDepth 20000 in
theorem mw_148 : (Cond.soleField "BreakingDisk$Name" "sort" : Cond) ∈ x_tb := x_mem 168 rfl rfl
set_option maxRecDepth 20000 in
theorem mw_149 : (Cond.laysFinal "BreakingDisk$Name" "BreakingDisk$Name" "time" "I" : Cond) ∈ x_tb := x_mem 169 rfl rfl
set_option maxRecDepth 20000 in
theorem mw_150 : (Cond.soleField "BreakingDisk$Name" "time" : Cond) ∈ x_tb := x_mem 170 rfl rfl
set_option maxRecDepth 20000 in
theorem mw_151 : (Cond.laysFinal "BreakingDisk$Name" "BreakingDisk$Name" "path" "LBreakingDisk$Bytes;" : Cond) ∈ x_tb := x_mem 171 rfl rfl
set_option maxRecDepth 20000 in
theorem mw_152 : (Cond.soleField "BreakingDisk$Name" "path" : Cond) ∈ x_tb := x_mem 172 rfl rfl
set_option maxRecDepth 20000 in
theorem mw_153 : (Cond.superclass "BreakingDisk$Name" "java/lang/Object" : Cond) ∈ x_tb := x_mem 173 rfl rfl
set_option maxRecDepth 20000 in
theorem mw_154 : (Cond.methodLink "BreakingDisk" 82 ⟨"BreakingDisk$Files", "find", "(LBreakingDisk$Name;)LBreakingDisk$StoredFile;"⟩ : Cond) ∈ x_tb := x_mem 174 rfl rfl
set_option maxRecDepth 20000 in
theorem mw_155 : (Cond.instanceMethod ⟨"BreakingDisk$Files", "find", "(LBreakingDisk$Name;)LBreakingDisk$StoredFile;"⟩ : Cond) ∈ x_tb := x_mem 175 rfl rfl
set_option maxRecDepth 20000 in
theorem mw_156 : (Cond.selects "BreakingDisk$Files" ⟨"BreakingDisk$Files", "find", "(LBreakingDisk$Name;)LBreakingDisk$StoredFile;"⟩ ⟨"BreakingDisk$Files", "find", "(LBreakingDisk$Name;)LBreakingDisk$StoredFile;"⟩ : Cond) ∈ x_tb := x_mem 176 rfl rfl
set_option maxRecDepth 20000 in
theorem mw_157 : (Cond.code ⟨"BreakingDisk$Files", "find", "(LBreakingDisk$Name;)LBreakingDisk$StoredFile;"⟩ prog_3_method_4_code 2 (some (.object "BreakingDisk$StoredFile")) : Cond) ∈ x_tb := x_mem 177 rfl rfl
set_option maxRecDepth 20000 in
theorem mw_158 : (Cond.methodLink "BreakingDisk$Files" 21 ⟨"BreakingDisk$Files", "indexOf", "(LBreakingDisk$Name;)I"⟩ : Cond) ∈ x_tb := x_mem 178 rfl rfl
set_option maxRecDepth 20000 in
theorem ml_159 : (Cond.privateMethod ⟨"BreakingDisk$Files", "indexOf", "(LBreakingDisk$Name;)I"⟩ : Cond) ∈ lw_tbl := List.mem_of_getElem? (i := 179) rfl
set_option maxRecDepth 20000 in
theorem mw_160 : (Cond.instanceMethod ⟨"BreakingDisk$Files", "indexOf", "(LBreakingDisk$Name;)I"⟩ : Cond) ∈ x_tb := x_mem 180 rfl rfl
set_option maxRecDepth 20000 in
theorem mw_161 : (Cond.code ⟨"BreakingDisk$Files", "indexOf", "(LBreakingDisk$Name;)I"⟩ prog_3_method_10_code 3 (some .int) : Cond) ∈ x_tb := x_mem 181 rfl rfl
set_option maxRecDepth 20000 in
theorem mw_162 : (Cond.methodLink "BreakingDisk$Files" 59 ⟨"BreakingDisk$Name", "order", "(LBreakingDisk$Name;)I"⟩ : Cond) ∈ x_tb := x_mem 182 rfl rfl
set_option maxRecDepth 20000 in
theorem mw_163 : (Cond.instanceMethod ⟨"BreakingDisk$Name", "order", "(LBreakingDisk$Name;)I"⟩ : Cond) ∈ x_tb := x_mem 183 rfl rfl
set_option maxRecDepth 20000 in
theorem mw_164 : (Cond.selects "BreakingDisk$Name" ⟨"BreakingDisk$Name", "order", "(LBreakingDisk$Name;)I"⟩ ⟨"BreakingDisk$Name", "order", "(LBreakingDisk$Name;)I"⟩ : Cond) ∈ x_tb := x_mem 184 rfl rfl
set_option maxRecDepth 20000 in
theorem mw_165 : (Cond.code ⟨"BreakingDisk$Name", "order", "(LBreakingDisk$Name;)I"⟩ prog_5_method_2_code 2 (some .int) : Cond) ∈ x_tb := x_mem 185 rfl rfl
set_option maxRecDepth 20000 in
theorem mw_166 : (Cond.methodLink "BreakingDisk$Name" 20 ⟨"java/lang/Integer", "compare", "(II)I"⟩ : Cond) ∈ x_tb := x_mem 186 rfl rfl
set_option maxRecDepth 20000 in
theorem mw_167 : (Cond.static ⟨"java/lang/Integer", "compare", "(II)I"⟩ : Cond) ∈ x_tb := x_mem 187 rfl rfl
set_option maxRecDepth 20000 in
theorem mw_168 : (Cond.code ⟨"java/lang/Integer", "compare", "(II)I"⟩ prog_16_method_40_code 2 (some .int) : Cond) ∈ x_tb := x_mem 188 rfl rfl
set_option maxRecDepth 20000 in
theorem mw_169 : (Cond.methodLink "BreakingDisk$Name" 26 ⟨"BreakingDisk$Bytes", "order", "(LBreakingDisk$Bytes;)I"⟩ : Cond) ∈ x_tb := x_mem 189 rfl rfl
set_option maxRecDepth 20000 in
theorem mw_170 : (Cond.instanceMethod ⟨"BreakingDisk$Bytes", "order", "(LBreakingDisk$Bytes;)I"⟩ : Cond) ∈ x_tb := x_mem 190 rfl rfl
set_option maxRecDepth 20000 in
theorem mw_171 : (Cond.selects "BreakingDisk$Bytes" ⟨"BreakingDisk$Bytes", "order", "(LBreakingDisk$Bytes;)I"⟩ ⟨"BreakingDisk$Bytes", "order", "(LBreakingDisk$Bytes;)I"⟩ : Cond) ∈ x_tb := x_mem 191 rfl rfl
set_option maxRecDepth 20000 in
theorem mw_172 : (Cond.code ⟨"BreakingDisk$Bytes", "order", "(LBreakingDisk$Bytes;)I"⟩ prog_2_method_4_code 5 (some .int) : Cond) ∈ x_tb := x_mem 192 rfl rfl
set_option maxRecDepth 20000 in
theorem mw_173 : (Cond.methodLink "BreakingDisk$Files" 25 ⟨"BreakingDisk$Files", "nth", "(I)LBreakingDisk$StoredFile;"⟩ : Cond) ∈ x_tb := x_mem 193 rfl rfl
set_option maxRecDepth 20000 in
theorem mw_174 : (Cond.instanceMethod ⟨"BreakingDisk$Files", "nth", "(I)LBreakingDisk$StoredFile;"⟩ : Cond) ∈ x_tb := x_mem 194 rfl rfl
set_option maxRecDepth 20000 in
theorem mw_175 : (Cond.selects "BreakingDisk$Files" ⟨"BreakingDisk$Files", "nth", "(I)LBreakingDisk$StoredFile;"⟩ ⟨"BreakingDisk$Files", "nth", "(I)LBreakingDisk$StoredFile;"⟩ : Cond) ∈ x_tb := x_mem 195 rfl rfl
set_option maxRecDepth 20000 in
theorem mw_176 : (Cond.code ⟨"BreakingDisk$Files", "nth", "(I)LBreakingDisk$StoredFile;"⟩ prog_3_method_3_code 2 (some (.object "BreakingDisk$StoredFile")) : Cond) ∈ x_tb := x_mem 196 rfl rfl
set_option maxRecDepth 20000 in
theorem mw_177 : (Cond.methodLink "BreakingDisk" 67 ⟨"BreakingDisk$Bytes", "length", "()I"⟩ : Cond) ∈ x_tb := x_mem 197 rfl rfl
set_option maxRecDepth 20000 in
theorem mw_178 : (Cond.instanceMethod ⟨"BreakingDisk$Bytes", "length", "()I"⟩ : Cond) ∈ x_tb := x_mem 198 rfl rfl
set_option maxRecDepth 20000 in
theorem mw_179 : (Cond.selects "BreakingDisk$Bytes" ⟨"BreakingDisk$Bytes", "length", "()I"⟩ ⟨"BreakingDisk$Bytes", "length", "()I"⟩ : Cond) ∈ x_tb := x_mem 199 rfl rfl
set_option maxRecDepth 20000 in
theorem mw_180 : (Cond.code ⟨"BreakingDisk$Bytes", "length", "()I"⟩ prog_2_method_2_code 1 (some .int) : Cond) ∈ x_tb := x_mem 200 rfl rfl
set_option maxRecDepth 20000 in
theorem mw_181 : (Cond.methodLink "BreakingDiskLaw" 78 ⟨"BreakingDisk", "at", "(III)I"⟩ : Cond) ∈ x_tb := x_mem 201 rfl rfl
set_option maxRecDepth 20000 in
theorem mw_182 : (Cond.instanceMethod ⟨"BreakingDisk", "at", "(III)I"⟩ : Cond) ∈ x_tb := x_mem 202 rfl rfl
set_option maxRecDepth 20000 in
theorem mw_183 : (Cond.selects "BreakingDisk" ⟨"BreakingDisk", "at", "(III)I"⟩ ⟨"BreakingDisk", "at", "(III)I"⟩ : Cond) ∈ x_tb := x_mem 203 rfl rfl
set_option maxRecDepth 20000 in
theorem mw_184 : (Cond.code ⟨"BreakingDisk", "at", "(III)I"⟩ prog_1_method_10_code 5 (some .int) : Cond) ∈ x_tb := x_mem 204 rfl rfl
set_option maxRecDepth 20000 in
theorem mw_185 : (Cond.methodLink "BreakingDisk" 139 ⟨"BreakingDisk$Bytes", "byteAt", "(I)I"⟩ : Cond) ∈ x_tb := x_mem 205 rfl rfl
set_option maxRecDepth 20000 in
theorem mw_186 : (Cond.instanceMethod ⟨"BreakingDisk$Bytes", "byteAt", "(I)I"⟩ : Cond) ∈ x_tb := x_mem 206 rfl rfl
set_option maxRecDepth 20000 in
theorem mw_187 : (Cond.selects "BreakingDisk$Bytes" ⟨"BreakingDisk$Bytes", "byteAt", "(I)I"⟩ ⟨"BreakingDisk$Bytes", "byteAt", "(I)I"⟩ : Cond) ∈ x_tb := x_mem 207 rfl rfl
set_option maxRecDepth 20000 in
theorem mw_188 : (Cond.code ⟨"BreakingDisk$Bytes", "byteAt", "(I)I"⟩ prog_2_method_3_code 2 (some .int) : Cond) ∈ x_tb := x_mem 208 rfl rfl
set_option maxRecDepth 20000 in
theorem mw_189 : (Cond.methodLink "BreakingDiskLaw" 83 ⟨"BreakingDisk", "list", "(I)I"⟩ : Cond) ∈ x_tb := x_mem 209 rfl rfl
set_option maxRecDepth 20000 in
theorem mw_190 : (Cond.instanceMethod ⟨"BreakingDisk", "list", "(I)I"⟩ : Cond) ∈ x_tb := x_mem 210 rfl rfl
set_option maxRecDepth 20000 in
theorem mw_191 : (Cond.selects "BreakingDisk" ⟨"BreakingDisk", "list", "(I)I"⟩ ⟨"BreakingDisk", "list", "(I)I"⟩ : Cond) ∈ x_tb := x_mem 211 rfl rfl
set_option maxRecDepth 20000 in
theorem mw_192 : (Cond.code ⟨"BreakingDisk", "list", "(I)I"⟩ prog_1_method_11_code 2 (some .int) : Cond) ∈ x_tb := x_mem 212 rfl rfl
set_option maxRecDepth 20000 in
theorem mw_193 : (Cond.methodLink "BreakingDisk" 143 ⟨"BreakingDisk", "isSort", "(I)Z"⟩ : Cond) ∈ x_tb := x_mem 213 rfl rfl
set_option maxRecDepth 20000 in
theorem mw_194 : (Cond.static ⟨"BreakingDisk", "isSort", "(I)Z"⟩ : Cond) ∈ x_tb := x_mem 214 rfl rfl
set_option maxRecDepth 20000 in
theorem mw_195 : (Cond.code ⟨"BreakingDisk", "isSort", "(I)Z"⟩ prog_1_method_14_code 1 (some .boolean) : Cond) ∈ x_tb := x_mem 215 rfl rfl
set_option maxRecDepth 20000 in
theorem mw_196 : (Cond.methodLink "BreakingDisk" 147 ⟨"BreakingDisk$Files", "copySortFrom", "(LBreakingDisk$Files;I)V"⟩ : Cond) ∈ x_tb := x_mem 216 rfl rfl
set_option maxRecDepth 20000 in
theorem mw_197 : (Cond.instanceMethod ⟨"BreakingDisk$Files", "copySortFrom", "(LBreakingDisk$Files;I)V"⟩ : Cond) ∈ x_tb := x_mem 217 rfl rfl
set_option maxRecDepth 20000 in
theorem mw_198 : (Cond.selects "BreakingDisk$Files" ⟨"BreakingDisk$Files", "copySortFrom", "(LBreakingDisk$Files;I)V"⟩ ⟨"BreakingDisk$Files", "copySortFrom", "(LBreakingDisk$Files;I)V"⟩ : Cond) ∈ x_tb := x_mem 218 rfl rfl
set_option maxRecDepth 20000 in
theorem mw_199 : (Cond.code ⟨"BreakingDisk$Files", "copySortFrom", "(LBreakingDisk$Files;I)V"⟩ prog_3_method_8_code 4 none : Cond) ∈ x_tb := x_mem 219 rfl rfl
set_option maxRecDepth 20000 in
theorem mw_200 : (Cond.methodLink "BreakingDisk$Files" 29 ⟨"BreakingDisk$Files", "isOfSort", "(LBreakingDisk$StoredFile;I)Z"⟩ : Cond) ∈ x_tb := x_mem 220 rfl rfl
set_option maxRecDepth 20000 in
theorem mw_201 : (Cond.static ⟨"BreakingDisk$Files", "isOfSort", "(LBreakingDisk$StoredFile;I)Z"⟩ : Cond) ∈ x_tb := x_mem 221 rfl rfl
set_option maxRecDepth 20000 in
theorem mw_202 : (Cond.code ⟨"BreakingDisk$Files", "isOfSort", "(LBreakingDisk$StoredFile;I)Z"⟩ prog_3_method_9_code 2 (some .boolean) : Cond) ∈ x_tb := x_mem 222 rfl rfl
set_option maxRecDepth 20000 in
theorem mw_203 : (Cond.methodLink "BreakingDisk$Files" 50 ⟨"BreakingDisk$Files", "insert", "(LBreakingDisk$StoredFile;)V"⟩ : Cond) ∈ x_tb := x_mem 223 rfl rfl
set_option maxRecDepth 20000 in
theorem ml_204 : (Cond.privateMethod ⟨"BreakingDisk$Files", "insert", "(LBreakingDisk$StoredFile;)V"⟩ : Cond) ∈ lw_tbl := List.mem_of_getElem? (i := 224) rfl
set_option maxRecDepth 20000 in
theorem mw_205 : (Cond.instanceMethod ⟨"BreakingDisk$Files", "insert", "(LBreakingDisk$StoredFile;)V"⟩ : Cond) ∈ x_tb := x_mem 225 rfl rfl
set_option maxRecDepth 20000 in
theorem mw_206 : (Cond.code ⟨"BreakingDisk$Files", "insert", "(LBreakingDisk$StoredFile;)V"⟩ prog_3_method_12_code 3 none : Cond) ∈ x_tb := x_mem 226 rfl rfl
set_option maxRecDepth 20000 in
theorem mw_207 : (Cond.methodLink "BreakingDisk$Files" 62 ⟨"BreakingDisk$Files", "isFull", "()Z"⟩ : Cond) ∈ x_tb := x_mem 227 rfl rfl
set_option maxRecDepth 20000 in
theorem mw_208 : (Cond.instanceMethod ⟨"BreakingDisk$Files", "isFull", "()Z"⟩ : Cond) ∈ x_tb := x_mem 228 rfl rfl
set_option maxRecDepth 20000 in
theorem mw_209 : (Cond.selects "BreakingDisk$Files" ⟨"BreakingDisk$Files", "isFull", "()Z"⟩ ⟨"BreakingDisk$Files", "isFull", "()Z"⟩ : Cond) ∈ x_tb := x_mem 229 rfl rfl
set_option maxRecDepth 20000 in
theorem mw_210 : (Cond.code ⟨"BreakingDisk$Files", "isFull", "()Z"⟩ prog_3_method_2_code 1 (some .boolean) : Cond) ∈ x_tb := x_mem 230 rfl rfl
set_option maxRecDepth 20000 in
theorem mw_211 : (Cond.methodLink "BreakingDiskLaw" 87 ⟨"BreakingDisk", "listed", "(II)I"⟩ : Cond) ∈ x_tb := x_mem 231 rfl rfl
set_option maxRecDepth 20000 in
theorem mw_212 : (Cond.instanceMethod ⟨"BreakingDisk", "listed", "(II)I"⟩ : Cond) ∈ x_tb := x_mem 232 rfl rfl
set_option maxRecDepth 20000 in
theorem mw_213 : (Cond.selects "BreakingDisk" ⟨"BreakingDisk", "listed", "(II)I"⟩ ⟨"BreakingDisk", "listed", "(II)I"⟩ : Cond) ∈ x_tb := x_mem 233 rfl rfl
set_option maxRecDepth 20000 in
theorem mw_214 : (Cond.code ⟨"BreakingDisk", "listed", "(II)I"⟩ prog_1_method_12_code 4 (some .int) : Cond) ∈ x_tb := x_mem 234 rfl rfl
set_option maxRecDepth 20000 in
theorem mw_215 : (Cond.methodLink "BreakingDisk" 152 ⟨"BreakingDisk$Files", "nth", "(I)LBreakingDisk$StoredFile;"⟩ : Cond) ∈ x_tb := x_mem 235 rfl rfl
set_option maxRecDepth 20000 in
theorem mw_216 : (Cond.methodLink "BreakingDiskLaw" 91 ⟨"BreakingDisk", "count", "(I)I"⟩ : Cond) ∈ x_tb := x_mem 236 rfl rfl
set_option maxRecDepth 20000 in
theorem mw_217 : (Cond.instanceMethod ⟨"BreakingDisk", "count", "(I)I"⟩ : Cond) ∈ x_tb := x_mem 237 rfl rfl
set_option maxRecDepth 20000 in
theorem mw_218 : (Cond.selects "BreakingDisk" ⟨"BreakingDisk", "count", "(I)I"⟩ ⟨"BreakingDisk", "count", "(I)I"⟩ : Cond) ∈ x_tb := x_mem 238 rfl rfl
set_option maxRecDepth 20000 in
theorem mw_219 : (Cond.code ⟨"BreakingDisk", "count", "(I)I"⟩ prog_1_method_13_code 2 (some .int) : Cond) ∈ x_tb := x_mem 239 rfl rfl
set_option maxRecDepth 20000 in
theorem mw_220 : (Cond.methodLink "BreakingDisk" 164 ⟨"BreakingDisk$Files", "countOfSort", "(I)I"⟩ : Cond) ∈ x_tb := x_mem 240 rfl rfl
set_option maxRecDepth 20000 in
theorem mw_221 : (Cond.instanceMethod ⟨"BreakingDisk$Files", "countOfSort", "(I)I"⟩ : Cond) ∈ x_tb := x_mem 241 rfl rfl
set_option maxRecDepth 20000 in
theorem mw_222 : (Cond.selects "BreakingDisk$Files" ⟨"BreakingDisk$Files", "countOfSort", "(I)I"⟩ ⟨"BreakingDisk$Files", "countOfSort", "(I)I"⟩ : Cond) ∈ x_tb := x_mem 242 rfl rfl
set_option maxRecDepth 20000 in
theorem mw_223 : (Cond.code ⟨"BreakingDisk$Files", "countOfSort", "(I)I"⟩ prog_3_method_5_code 4 (some .int) : Cond) ∈ x_tb := x_mem 243 rfl rfl
set_option maxRecDepth 20000 in
theorem mw_224 : (Cond.methodLink "BreakingDiskLaw" 45 ⟨"BreakingDiskLaw", "path", "(LBreakingDisk;[J)I"⟩ : Cond) ∈ x_tb := x_mem 244 rfl rfl
set_option maxRecDepth 20000 in
theorem mw_225 : (Cond.static ⟨"BreakingDiskLaw", "path", "(LBreakingDisk;[J)I"⟩ : Cond) ∈ x_tb := x_mem 245 rfl rfl
set_option maxRecDepth 20000 in
theorem mw_226 : (Cond.codeWith ⟨"BreakingDiskLaw", "path", "(LBreakingDisk;[J)I"⟩ method_3_code 3 (some .int) [(0, 8, 11, 13)] : Cond) ∈ x_tb := x_mem 246 rfl rfl
set_option maxRecDepth 20000 in
theorem mw_227 : (Cond.classLink "BreakingDiskLaw" 13 "java/lang/IllegalArgumentException" : Cond) ∈ x_tb := x_mem 247 rfl rfl
set_option maxRecDepth 20000 in
theorem mw_228 : (Cond.methodLink "BreakingDiskLaw" 7 ⟨"BreakingDisk", "path", "()I"⟩ : Cond) ∈ x_tb := x_mem 248 rfl rfl
set_option maxRecDepth 20000 in
theorem mw_229 : (Cond.instanceMethod ⟨"BreakingDisk", "path", "()I"⟩ : Cond) ∈ x_tb := x_mem 249 rfl rfl
set_option maxRecDepth 20000 in
theorem mw_230 : (Cond.selects "BreakingDisk" ⟨"BreakingDisk", "path", "()I"⟩ ⟨"BreakingDisk", "path", "()I"⟩ : Cond) ∈ x_tb := x_mem 250 rfl rfl
set_option maxRecDepth 20000 in
theorem mw_231 : (Cond.code ⟨"BreakingDisk", "path", "()I"⟩ prog_1_method_3_code 1 (some .int) : Cond) ∈ x_tb := x_mem 251 rfl rfl
set_option maxRecDepth 20000 in
theorem mw_232 : (Cond.classLink "BreakingDisk" 56 "java/lang/IllegalArgumentException" : Cond) ∈ x_tb := x_mem 252 rfl rfl
set_option maxRecDepth 20000 in
theorem mw_233 : (Cond.instantiable "java/lang/IllegalArgumentException" 6 : Cond) ∈ x_tb := x_mem 253 rfl rfl
set_option maxRecDepth 20000 in
theorem ml_234 : (Cond.castable "java/lang/IllegalArgumentException" "java/lang/IllegalArgumentException" : Cond) ∈ lw_tbl := List.mem_of_getElem? (i := 254) rfl
set_option maxRecDepth 20000 in
theorem ml_235 : (Cond.declares ⟨"java/lang/RuntimeException", "<init>", "()V"⟩ : Cond) ∈ lw_tbl := List.mem_of_getElem? (i := 255) rfl
set_option maxRecDepth 20000 in
theorem ml_236 : (Cond.declares ⟨"java/lang/RuntimeException", "<init>", "(Ljava/lang/String;)V"⟩ : Cond) ∈ lw_tbl := List.mem_of_getElem? (i := 256) rfl
set_option maxRecDepth 20000 in
theorem ml_237 : (Cond.declares ⟨"java/lang/Exception", "<init>", "()V"⟩ : Cond) ∈ lw_tbl := List.mem_of_getElem? (i := 257) rfl
set_option maxRecDepth 20000 in
theorem ml_238 : (Cond.declares ⟨"java/lang/Exception", "<init>", "(Ljava/lang/String;)V"⟩ : Cond) ∈ lw_tbl := List.mem_of_getElem? (i := 258) rfl
set_option maxRecDepth 20000 in
theorem ml_239 : (Cond.declares ⟨"java/lang/Throwable", "<init>", "()V"⟩ : Cond) ∈ lw_tbl := List.mem_of_getElem? (i := 259) rfl
set_option maxRecDepth 20000 in
theorem ml_240 : (Cond.declares ⟨"java/lang/Throwable", "<init>", "(Ljava/lang/String;)V"⟩ : Cond) ∈ lw_tbl := List.mem_of_getElem? (i := 260) rfl
set_option maxRecDepth 20000 in
theorem mw_241 : (Cond.selects "java/lang/IllegalArgumentException" ⟨"java/lang/Throwable", "fillInStackTrace", "(I)Ljava/lang/Throwable;"⟩ ⟨"java/lang/Throwable", "fillInStackTrace", "(I)Ljava/lang/Throwable;"⟩ : Cond) ∈ x_tb := x_mem 261 rfl rfl
set_option maxRecDepth 20000 in
theorem mw_242 : (Cond.selects "java/lang/IllegalArgumentException" ⟨"java/lang/Throwable", "fillInStackTrace", "()Ljava/lang/Throwable;"⟩ ⟨"java/lang/Throwable", "fillInStackTrace", "()Ljava/lang/Throwable;"⟩ : Cond) ∈ x_tb := x_mem 262 rfl rfl
set_option maxRecDepth 20000 in
theorem mw_243 : (Cond.lays "java/lang/IllegalArgumentException" "java/lang/Throwable" "cause" "Ljava/lang/Throwable;" : Cond) ∈ x_tb := x_mem 263 rfl rfl
set_option maxRecDepth 20000 in
theorem mw_244 : (Cond.lays "java/lang/Throwable" "java/lang/Throwable" "cause" "Ljava/lang/Throwable;" : Cond) ∈ x_tb := x_mem 264 rfl rfl
set_option maxRecDepth 20000 in
theorem mw_245 : (Cond.lays "java/lang/IllegalArgumentException" "java/lang/Throwable" "stackTrace" "[Ljava/lang/StackTraceElement;" : Cond) ∈ x_tb := x_mem 265 rfl rfl
set_option maxRecDepth 20000 in
theorem mw_246 : (Cond.lays "java/lang/Throwable" "java/lang/Throwable" "stackTrace" "[Ljava/lang/StackTraceElement;" : Cond) ∈ x_tb := x_mem 266 rfl rfl
set_option maxRecDepth 20000 in
theorem mw_247 : (Cond.lays "java/lang/IllegalArgumentException" "java/lang/Throwable" "suppressedExceptions" "Ljava/util/List;" : Cond) ∈ x_tb := x_mem 267 rfl rfl
set_option maxRecDepth 20000 in
theorem mw_248 : (Cond.lays "java/lang/Throwable" "java/lang/Throwable" "suppressedExceptions" "Ljava/util/List;" : Cond) ∈ x_tb := x_mem 268 rfl rfl
set_option maxRecDepth 20000 in
theorem mw_249 : (Cond.lays "java/lang/IllegalArgumentException" "java/lang/Throwable" "detailMessage" "Ljava/lang/String;" : Cond) ∈ x_tb := x_mem 269 rfl rfl
set_option maxRecDepth 20000 in
theorem mw_250 : (Cond.lays "java/lang/Throwable" "java/lang/Throwable" "detailMessage" "Ljava/lang/String;" : Cond) ∈ x_tb := x_mem 270 rfl rfl
set_option maxRecDepth 20000 in
theorem mw_251 : (Cond.lays "java/lang/IllegalArgumentException" "java/lang/Throwable" "backtrace" "Ljava/lang/Object;" : Cond) ∈ x_tb := x_mem 271 rfl rfl
set_option maxRecDepth 20000 in
theorem mw_252 : (Cond.lays "java/lang/Throwable" "java/lang/Throwable" "backtrace" "Ljava/lang/Object;" : Cond) ∈ x_tb := x_mem 272 rfl rfl
set_option maxRecDepth 20000 in
theorem mw_253 : (Cond.fieldLink "java/lang/Throwable" 198 "java/lang/Throwable" "backtrace" "Ljava/lang/Object;" : Cond) ∈ x_tb := x_mem 273 rfl rfl
set_option maxRecDepth 20000 in
theorem mw_254 : (Cond.superclass "java/lang/Throwable" "java/lang/Object" : Cond) ∈ x_tb := x_mem 274 rfl rfl
set_option maxRecDepth 20000 in
theorem mw_255 : (Cond.instanceMethod ⟨"java/lang/Throwable", "<init>", "()V"⟩ : Cond) ∈ x_tb := x_mem 275 rfl rfl
set_option maxRecDepth 20000 in
theorem mw_256 : (Cond.code ⟨"java/lang/Throwable", "<init>", "()V"⟩ prog_21_method_1_code 1 none : Cond) ∈ x_tb := x_mem 276 rfl rfl
set_option maxRecDepth 20000 in
theorem mw_257 : (Cond.methodLink "java/lang/Throwable" 1 ⟨"java/lang/Object", "<init>", "()V"⟩ : Cond) ∈ x_tb := x_mem 277 rfl rfl
set_option maxRecDepth 20000 in
theorem mw_258 : (Cond.fieldLink "java/lang/Throwable" 13 "java/lang/Throwable" "UNASSIGNED_STACK" "[Ljava/lang/StackTraceElement;" : Cond) ∈ x_tb := x_mem 278 rfl rfl
set_option maxRecDepth 20000 in
theorem ml_259 : (Cond.laysStatic "java/lang/Throwable" "UNASSIGNED_STACK" "[Ljava/lang/StackTraceElement;" : Cond) ∈ lw_tbl := List.mem_of_getElem? (i := 279) rfl
set_option maxRecDepth 20000 in
theorem mw_260 : (Cond.fieldLink "java/lang/Throwable" 20 "java/lang/Throwable" "SUPPRESSED_SENTINEL" "Ljava/util/List;" : Cond) ∈ x_tb := x_mem 280 rfl rfl
set_option maxRecDepth 20000 in
theorem ml_261 : (Cond.laysStatic "java/lang/Throwable" "SUPPRESSED_SENTINEL" "Ljava/util/List;" : Cond) ∈ lw_tbl := List.mem_of_getElem? (i := 281) rfl
set_option maxRecDepth 20000 in
theorem mw_262 : (Cond.methodLink "java/lang/Throwable" 27 ⟨"java/lang/Throwable", "fillInStackTrace", "()Ljava/lang/Throwable;"⟩ : Cond) ∈ x_tb := x_mem 282 rfl rfl
set_option maxRecDepth 20000 in
theorem mw_263 : (Cond.instanceMethod ⟨"java/lang/Throwable", "fillInStackTrace", "()Ljava/lang/Throwable;"⟩ : Cond) ∈ x_tb := x_mem 283 rfl rfl
set_option maxRecDepth 20000 in
theorem mw_264 : (Cond.sameMethod "java/lang/Throwable" "java/lang/Throwable" "fillInStackTrace" "()Ljava/lang/Throwable;" : Cond) ∈ x_tb := x_mem 284 rfl rfl
set_option maxRecDepth 20000 in
theorem mw_265 : (Cond.selects "java/lang/IllegalStateException" ⟨"java/lang/Throwable", "fillInStackTrace", "()Ljava/lang/Throwable;"⟩ ⟨"java/lang/Throwable", "fillInStackTrace", "()Ljava/lang/Throwable;"⟩ : Cond) ∈ x_tb := x_mem 285 rfl rfl
set_option maxRecDepth 20000 in
theorem mw_266 : (Cond.selects "java/lang/IndexOutOfBoundsException" ⟨"java/lang/Throwable", "fillInStackTrace", "()Ljava/lang/Throwable;"⟩ ⟨"java/lang/Throwable", "fillInStackTrace", "()Ljava/lang/Throwable;"⟩ : Cond) ∈ x_tb := x_mem 286 rfl rfl
set_option maxRecDepth 20000 in
theorem mw_267 : (Cond.codeSync ⟨"java/lang/Throwable", "fillInStackTrace", "()Ljava/lang/Throwable;"⟩ prog_21_method_18_code 1 (some (.object "java/lang/Throwable")) : Cond) ∈ x_tb := x_mem 287 rfl rfl
set_option maxRecDepth 20000 in
theorem mw_268 : (Cond.methodLink "java/lang/Throwable" 202 ⟨"java/lang/Throwable", "fillInStackTrace", "(I)Ljava/lang/Throwable;"⟩ : Cond) ∈ x_tb := x_mem 288 rfl rfl
set_option maxRecDepth 20000 in
theorem ml_269 : (Cond.privateMethod ⟨"java/lang/Throwable", "fillInStackTrace", "(I)Ljava/lang/Throwable;"⟩ : Cond) ∈ lw_tbl := List.mem_of_getElem? (i := 289) rfl
set_option maxRecDepth 20000 in
theorem mw_270 : (Cond.instanceMethod ⟨"java/lang/Throwable", "fillInStackTrace", "(I)Ljava/lang/Throwable;"⟩ : Cond) ∈ x_tb := x_mem 290 rfl rfl
set_option maxRecDepth 20000 in
theorem mw_271 : (Cond.instantiable "java/lang/Throwable" 6 : Cond) ∈ x_tb := x_mem 291 rfl rfl
set_option maxRecDepth 20000 in
theorem mw_272 : (Cond.native ⟨"java/lang/Throwable", "fillInStackTrace", "(I)Ljava/lang/Throwable;"⟩ : Cond) ∈ x_tb := x_mem 292 rfl rfl
set_option maxRecDepth 20000 in
theorem ml_273 : (Cond.stringRef "BreakingDisk" 58 "the tape is too long for a PATH" : Cond) ∈ lw_tbl := List.mem_of_getElem? (i := 293) rfl
set_option maxRecDepth 20000 in
theorem mw_274 : (Cond.methodLink "BreakingDisk" 60 ⟨"java/lang/IllegalArgumentException", "<init>", "(Ljava/lang/String;)V"⟩ : Cond) ∈ x_tb := x_mem 294 rfl rfl
set_option maxRecDepth 20000 in
theorem mw_275 : (Cond.instanceMethod ⟨"java/lang/IllegalArgumentException", "<init>", "(Ljava/lang/String;)V"⟩ : Cond) ∈ x_tb := x_mem 295 rfl rfl
set_option maxRecDepth 20000 in
theorem mw_276 : (Cond.code ⟨"java/lang/IllegalArgumentException", "<init>", "(Ljava/lang/String;)V"⟩ prog_13_method_2_code 2 none : Cond) ∈ x_tb := x_mem 296 rfl rfl
set_option maxRecDepth 20000 in
theorem mw_277 : (Cond.methodLink "java/lang/IllegalArgumentException" 7 ⟨"java/lang/RuntimeException", "<init>", "(Ljava/lang/String;)V"⟩ : Cond) ∈ x_tb := x_mem 297 rfl rfl
set_option maxRecDepth 20000 in
theorem mw_278 : (Cond.instanceMethod ⟨"java/lang/RuntimeException", "<init>", "(Ljava/lang/String;)V"⟩ : Cond) ∈ x_tb := x_mem 298 rfl rfl
set_option maxRecDepth 20000 in
theorem mw_279 : (Cond.code ⟨"java/lang/RuntimeException", "<init>", "(Ljava/lang/String;)V"⟩ prog_18_method_2_code 2 none : Cond) ∈ x_tb := x_mem 299 rfl rfl
set_option maxRecDepth 20000 in
theorem mw_280 : (Cond.methodLink "java/lang/RuntimeException" 7 ⟨"java/lang/Exception", "<init>", "(Ljava/lang/String;)V"⟩ : Cond) ∈ x_tb := x_mem 300 rfl rfl
set_option maxRecDepth 20000 in
theorem mw_281 : (Cond.instanceMethod ⟨"java/lang/Exception", "<init>", "(Ljava/lang/String;)V"⟩ : Cond) ∈ x_tb := x_mem 301 rfl rfl
set_option maxRecDepth 20000 in
theorem mw_282 : (Cond.code ⟨"java/lang/Exception", "<init>", "(Ljava/lang/String;)V"⟩ prog_12_method_2_code 2 none : Cond) ∈ x_tb := x_mem 302 rfl rfl
set_option maxRecDepth 20000 in
theorem mw_283 : (Cond.methodLink "java/lang/Exception" 7 ⟨"java/lang/Throwable", "<init>", "(Ljava/lang/String;)V"⟩ : Cond) ∈ x_tb := x_mem 303 rfl rfl
set_option maxRecDepth 20000 in
theorem mw_284 : (Cond.instanceMethod ⟨"java/lang/Throwable", "<init>", "(Ljava/lang/String;)V"⟩ : Cond) ∈ x_tb := x_mem 304 rfl rfl
set_option maxRecDepth 20000 in
theorem mw_285 : (Cond.code ⟨"java/lang/Throwable", "<init>", "(Ljava/lang/String;)V"⟩ prog_21_method_2_code 2 none : Cond) ∈ x_tb := x_mem 305 rfl rfl
set_option maxRecDepth 20000 in
theorem mw_286 : (Cond.fieldLink "java/lang/Throwable" 198 "java/lang/Throwable" "backtrace" "Ljava/lang/Object;" : Cond) ∈ x_tb := x_mem 306 rfl rfl
set_option maxRecDepth 20000 in
theorem mw_287 : (Cond.fieldLink "java/lang/Throwable" 31 "java/lang/Throwable" "detailMessage" "Ljava/lang/String;" : Cond) ∈ x_tb := x_mem 307 rfl rfl
set_option maxRecDepth 20000 in
theorem mw_288 : (Cond.fieldLink "java/lang/Throwable" 7 "java/lang/Throwable" "cause" "Ljava/lang/Throwable;" : Cond) ∈ x_tb := x_mem 308 rfl rfl
set_option maxRecDepth 20000 in
theorem mw_289 : (Cond.fieldLink "java/lang/Throwable" 17 "java/lang/Throwable" "stackTrace" "[Ljava/lang/StackTraceElement;" : Cond) ∈ x_tb := x_mem 309 rfl rfl
set_option maxRecDepth 20000 in
theorem mw_290 : (Cond.fieldLink "java/lang/Throwable" 24 "java/lang/Throwable" "suppressedExceptions" "Ljava/util/List;" : Cond) ∈ x_tb := x_mem 310 rfl rfl
set_option maxRecDepth 20000 in
theorem mw_291 : (Cond.soleField "java/lang/Throwable" "backtrace" : Cond) ∈ x_tb := x_mem 311 rfl rfl
set_option maxRecDepth 20000 in
theorem mw_292 : (Cond.soleField "java/lang/Throwable" "detailMessage" : Cond) ∈ x_tb := x_mem 312 rfl rfl
set_option maxRecDepth 20000 in
theorem mw_293 : (Cond.soleField "java/lang/Throwable" "cause" : Cond) ∈ x_tb := x_mem 313 rfl rfl
set_option maxRecDepth 20000 in
theorem mw_294 : (Cond.soleField "java/lang/Throwable" "stackTrace" : Cond) ∈ x_tb := x_mem 314 rfl rfl
set_option maxRecDepth 20000 in
theorem mw_295 : (Cond.lays "java/lang/IllegalArgumentException" "java/lang/Throwable" "depth" "I" : Cond) ∈ x_tb := x_mem 315 rfl rfl
set_option maxRecDepth 20000 in
theorem mw_296 : (Cond.soleField "java/lang/Throwable" "depth" : Cond) ∈ x_tb := x_mem 316 rfl rfl
set_option maxRecDepth 20000 in
theorem mw_297 : (Cond.soleField "java/lang/Throwable" "suppressedExceptions" : Cond) ∈ x_tb := x_mem 317 rfl rfl
set_option maxRecDepth 20000 in
theorem mw_298 : (Cond.superclass "java/lang/IllegalArgumentException" "java/lang/RuntimeException" : Cond) ∈ x_tb := x_mem 318 rfl rfl
set_option maxRecDepth 20000 in
theorem mw_299 : (Cond.methodLink "BreakingDisk" 63 ⟨"BreakingDisk$Tape", "take", "()LBreakingDisk$Bytes;"⟩ : Cond) ∈ x_tb := x_mem 319 rfl rfl
set_option maxRecDepth 20000 in
theorem mw_300 : (Cond.instanceMethod ⟨"BreakingDisk$Tape", "take", "()LBreakingDisk$Bytes;"⟩ : Cond) ∈ x_tb := x_mem 320 rfl rfl
set_option maxRecDepth 20000 in
theorem mw_301 : (Cond.selects "BreakingDisk$Tape" ⟨"BreakingDisk$Tape", "take", "()LBreakingDisk$Bytes;"⟩ ⟨"BreakingDisk$Tape", "take", "()LBreakingDisk$Bytes;"⟩ : Cond) ∈ x_tb := x_mem 321 rfl rfl
set_option maxRecDepth 20000 in
theorem mw_302 : (Cond.code ⟨"BreakingDisk$Tape", "take", "()LBreakingDisk$Bytes;"⟩ prog_8_method_3_code 2 (some (.object "BreakingDisk$Bytes")) : Cond) ∈ x_tb := x_mem 322 rfl rfl
set_option maxRecDepth 20000 in
theorem mw_303 : (Cond.classLink "BreakingDisk$Tape" 19 "BreakingDisk$Bytes" : Cond) ∈ x_tb := x_mem 323 rfl rfl
set_option maxRecDepth 20000 in
theorem mw_304 : (Cond.methodLink "BreakingDisk$Tape" 21 ⟨"java/util/Arrays", "copyOf", "([BI)[B"⟩ : Cond) ∈ x_tb := x_mem 324 rfl rfl
set_option maxRecDepth 20000 in
theorem mw_305 : (Cond.static ⟨"java/util/Arrays", "copyOf", "([BI)[B"⟩ : Cond) ∈ x_tb := x_mem 325 rfl rfl
set_option maxRecDepth 20000 in
theorem mw_306 : (Cond.code ⟨"java/util/Arrays", "copyOf", "([BI)[B"⟩ prog_22_method_121_code 3 (some (.array .byte)) : Cond) ∈ x_tb := x_mem 326 rfl rfl
set_option maxRecDepth 20000 in
theorem mw_307 : (Cond.methodLink "java/util/Arrays" 310 ⟨"[B", "clone", "()Ljava/lang/Object;"⟩ : Cond) ∈ x_tb := x_mem 327 rfl rfl
set_option maxRecDepth 20000 in
theorem mw_308 : (Cond.sameMethod "[B" "java/lang/Object" "clone" "()Ljava/lang/Object;" : Cond) ∈ x_tb := x_mem 328 rfl rfl
set_option maxRecDepth 20000 in
theorem mw_309 : (Cond.native ⟨"java/lang/Object", "clone", "()Ljava/lang/Object;"⟩ : Cond) ∈ x_tb := x_mem 329 rfl rfl
set_option maxRecDepth 20000 in
theorem mw_310 : (Cond.instanceMethod ⟨"java/lang/Object", "clone", "()Ljava/lang/Object;"⟩ : Cond) ∈ x_tb := x_mem 330 rfl rfl
set_option maxRecDepth 20000 in
theorem mw_311 : (Cond.selects "[B" ⟨"[B", "clone", "()Ljava/lang/Object;"⟩ ⟨"java/lang/Object", "clone", "()Ljava/lang/Object;"⟩ : Cond) ∈ x_tb := x_mem 331 rfl rfl
set_option maxRecDepth 20000 in
theorem ml_312 : (Cond.castable "[B" "java/lang/Cloneable" : Cond) ∈ lw_tbl := List.mem_of_getElem? (i := 332) rfl
set_option maxRecDepth 20000 in
theorem mw_313 : (Cond.classLink "java/util/Arrays" 311 "[B" : Cond) ∈ x_tb := x_mem 333 rfl rfl
set_option maxRecDepth 20000 in
theorem mw_314 : (Cond.methodLink "java/util/Arrays" 304 ⟨"java/lang/Math", "min", "(II)I"⟩ : Cond) ∈ x_tb := x_mem 334 rfl rfl
set_option maxRecDepth 20000 in
theorem mw_315 : (Cond.static ⟨"java/lang/Math", "min", "(II)I"⟩ : Cond) ∈ x_tb := x_mem 335 rfl rfl
set_option maxRecDepth 20000 in
theorem mw_316 : (Cond.code ⟨"java/lang/Math", "min", "(II)I"⟩ prog_17_method_69_code 2 (some .int) : Cond) ∈ x_tb := x_mem 336 rfl rfl
set_option maxRecDepth 20000 in
theorem mw_317 : (Cond.methodLink "java/util/Arrays" 150 ⟨"java/lang/System", "arraycopy", "(Ljava/lang/Object;ILjava/lang/Object;II)V"⟩ : Cond) ∈ x_tb := x_mem 337 rfl rfl
set_option maxRecDepth 20000 in
theorem mw_318 : (Cond.static ⟨"java/lang/System", "arraycopy", "(Ljava/lang/Object;ILjava/lang/Object;II)V"⟩ : Cond) ∈ x_tb := x_mem 338 rfl rfl
set_option maxRecDepth 20000 in
theorem mw_319 : (Cond.native ⟨"java/lang/System", "arraycopy", "(Ljava/lang/Object;ILjava/lang/Object;II)V"⟩ : Cond) ∈ x_tb := x_mem 339 rfl rfl
set_option maxRecDepth 20000 in
theorem mw_320 : (Cond.methodLink "BreakingDisk$Tape" 27 ⟨"BreakingDisk$Bytes", "<init>", "([B)V"⟩ : Cond) ∈ x_tb := x_mem 340 rfl rfl
set_option maxRecDepth 20000 in
theorem mw_321 : (Cond.methodLink "BreakingDiskLaw" 54 ⟨"BreakingDiskLaw", "write", "(LBreakingDisk;II)I"⟩ : Cond) ∈ x_tb := x_mem 341 rfl rfl
set_option maxRecDepth 20000 in
theorem mw_322 : (Cond.static ⟨"BreakingDiskLaw", "write", "(LBreakingDisk;II)I"⟩ : Cond) ∈ x_tb := x_mem 342 rfl rfl
set_option maxRecDepth 20000 in
theorem mw_323 : (Cond.codeWith ⟨"BreakingDiskLaw", "write", "(LBreakingDisk;II)I"⟩ method_4_code 4 (some .int) [(0, 6, 9, 19), (0, 6, 12, 21)] : Cond) ∈ x_tb := x_mem 343 rfl rfl
set_option maxRecDepth 20000 in
theorem mw_324 : (Cond.classLink "BreakingDiskLaw" 19 "java/lang/IndexOutOfBoundsException" : Cond) ∈ x_tb := x_mem 344 rfl rfl
set_option maxRecDepth 20000 in
theorem mw_325 : (Cond.classLink "BreakingDiskLaw" 21 "java/lang/IllegalStateException" : Cond) ∈ x_tb := x_mem 345 rfl rfl
set_option maxRecDepth 20000 in
theorem mw_326 : (Cond.methodLink "BreakingDiskLaw" 15 ⟨"BreakingDisk", "write", "(II)V"⟩ : Cond) ∈ x_tb := x_mem 346 rfl rfl
set_option maxRecDepth 20000 in
theorem mw_327 : (Cond.instanceMethod ⟨"BreakingDisk", "write", "(II)V"⟩ : Cond) ∈ x_tb := x_mem 347 rfl rfl
set_option maxRecDepth 20000 in
theorem mw_328 : (Cond.selects "BreakingDisk" ⟨"BreakingDisk", "write", "(II)V"⟩ ⟨"BreakingDisk", "write", "(II)V"⟩ : Cond) ∈ x_tb := x_mem 348 rfl rfl
set_option maxRecDepth 20000 in
theorem mw_329 : (Cond.code ⟨"BreakingDisk", "write", "(II)V"⟩ prog_1_method_4_code 4 none : Cond) ∈ x_tb := x_mem 349 rfl rfl
set_option maxRecDepth 20000 in
theorem mw_330 : (Cond.methodLink "BreakingDisk" 70 ⟨"BreakingDisk", "refuseWrongName", "(II)V"⟩ : Cond) ∈ x_tb := x_mem 350 rfl rfl
set_option maxRecDepth 20000 in
theorem mw_331 : (Cond.static ⟨"BreakingDisk", "refuseWrongName", "(II)V"⟩ : Cond) ∈ x_tb := x_mem 351 rfl rfl
set_option maxRecDepth 20000 in
theorem mw_332 : (Cond.code ⟨"BreakingDisk", "refuseWrongName", "(II)V"⟩ prog_1_method_15_code 2 none : Cond) ∈ x_tb := x_mem 352 rfl rfl
set_option maxRecDepth 20000 in
theorem mw_333 : (Cond.classLink "BreakingDisk" 167 "java/lang/IndexOutOfBoundsException" : Cond) ∈ x_tb := x_mem 353 rfl rfl
set_option maxRecDepth 20000 in
theorem mw_334 : (Cond.instantiable "java/lang/IndexOutOfBoundsException" 6 : Cond) ∈ x_tb := x_mem 354 rfl rfl
set_option maxRecDepth 20000 in
theorem ml_335 : (Cond.castable "java/lang/IndexOutOfBoundsException" "java/lang/IndexOutOfBoundsException" : Cond) ∈ lw_tbl := List.mem_of_getElem? (i := 355) rfl
set_option maxRecDepth 20000 in
theorem mw_336 : (Cond.selects "java/lang/IndexOutOfBoundsException" ⟨"java/lang/Throwable", "fillInStackTrace", "(I)Ljava/lang/Throwable;"⟩ ⟨"java/lang/Throwable", "fillInStackTrace", "(I)Ljava/lang/Throwable;"⟩ : Cond) ∈ x_tb := x_mem 356 rfl rfl
set_option maxRecDepth 20000 in
theorem mw_337 : (Cond.lays "java/lang/IndexOutOfBoundsException" "java/lang/Throwable" "cause" "Ljava/lang/Throwable;" : Cond) ∈ x_tb := x_mem 357 rfl rfl
set_option maxRecDepth 20000 in
theorem mw_338 : (Cond.lays "java/lang/IndexOutOfBoundsException" "java/lang/Throwable" "stackTrace" "[Ljava/lang/StackTraceElement;" : Cond) ∈ x_tb := x_mem 358 rfl rfl
set_option maxRecDepth 20000 in
theorem mw_339 : (Cond.lays "java/lang/IndexOutOfBoundsException" "java/lang/Throwable" "suppressedExceptions" "Ljava/util/List;" : Cond) ∈ x_tb := x_mem 359 rfl rfl
set_option maxRecDepth 20000 in
theorem mw_340 : (Cond.lays "java/lang/IndexOutOfBoundsException" "java/lang/Throwable" "detailMessage" "Ljava/lang/String;" : Cond) ∈ x_tb := x_mem 360 rfl rfl
set_option maxRecDepth 20000 in
theorem mw_341 : (Cond.lays "java/lang/IndexOutOfBoundsException" "java/lang/Throwable" "backtrace" "Ljava/lang/Object;" : Cond) ∈ x_tb := x_mem 361 rfl rfl
set_option maxRecDepth 20000 in
theorem ml_342 : (Cond.stringRef "BreakingDisk" 169 "no such SORT or TIME" : Cond) ∈ lw_tbl := List.mem_of_getElem? (i := 362) rfl
set_option maxRecDepth 20000 in
theorem mw_343 : (Cond.methodLink "BreakingDisk" 171 ⟨"java/lang/IndexOutOfBoundsException", "<init>", "(Ljava/lang/String;)V"⟩ : Cond) ∈ x_tb := x_mem 363 rfl rfl
set_option maxRecDepth 20000 in
theorem mw_344 : (Cond.instanceMethod ⟨"java/lang/IndexOutOfBoundsException", "<init>", "(Ljava/lang/String;)V"⟩ : Cond) ∈ x_tb := x_mem 364 rfl rfl
set_option maxRecDepth 20000 in
theorem mw_345 : (Cond.code ⟨"java/lang/IndexOutOfBoundsException", "<init>", "(Ljava/lang/String;)V"⟩ prog_15_method_2_code 2 none : Cond) ∈ x_tb := x_mem 365 rfl rfl
set_option maxRecDepth 20000 in
theorem mw_346 : (Cond.methodLink "java/lang/IndexOutOfBoundsException" 7 ⟨"java/lang/RuntimeException", "<init>", "(Ljava/lang/String;)V"⟩ : Cond) ∈ x_tb := x_mem 366 rfl rfl
set_option maxRecDepth 20000 in
theorem mw_347 : (Cond.lays "java/lang/IndexOutOfBoundsException" "java/lang/Throwable" "depth" "I" : Cond) ∈ x_tb := x_mem 367 rfl rfl
set_option maxRecDepth 20000 in
theorem mw_348 : (Cond.superclass "java/lang/IndexOutOfBoundsException" "java/lang/RuntimeException" : Cond) ∈ x_tb := x_mem 368 rfl rfl
set_option maxRecDepth 20000 in
theorem mw_349 : (Cond.methodLink "BreakingDisk" 78 ⟨"BreakingDisk$Files", "isFull", "()Z"⟩ : Cond) ∈ x_tb := x_mem 369 rfl rfl
set_option maxRecDepth 20000 in
theorem mw_350 : (Cond.classLink "BreakingDisk" 86 "java/lang/IllegalStateException" : Cond) ∈ x_tb := x_mem 370 rfl rfl
set_option maxRecDepth 20000 in
theorem mw_351 : (Cond.instantiable "java/lang/IllegalStateException" 6 : Cond) ∈ x_tb := x_mem 371 rfl rfl
set_option maxRecDepth 20000 in
theorem ml_352 : (Cond.castable "java/lang/IllegalStateException" "java/lang/IllegalStateException" : Cond) ∈ lw_tbl := List.mem_of_getElem? (i := 372) rfl
set_option maxRecDepth 20000 in
theorem mw_353 : (Cond.selects "java/lang/IllegalStateException" ⟨"java/lang/Throwable", "fillInStackTrace", "(I)Ljava/lang/Throwable;"⟩ ⟨"java/lang/Throwable", "fillInStackTrace", "(I)Ljava/lang/Throwable;"⟩ : Cond) ∈ x_tb := x_mem 373 rfl rfl
set_option maxRecDepth 20000 in
theorem mw_354 : (Cond.lays "java/lang/IllegalStateException" "java/lang/Throwable" "cause" "Ljava/lang/Throwable;" : Cond) ∈ x_tb := x_mem 374 rfl rfl
set_option maxRecDepth 20000 in
theorem mw_355 : (Cond.lays "java/lang/IllegalStateException" "java/lang/Throwable" "stackTrace" "[Ljava/lang/StackTraceElement;" : Cond) ∈ x_tb := x_mem 375 rfl rfl
set_option maxRecDepth 20000 in
theorem mw_356 : (Cond.lays "java/lang/IllegalStateException" "java/lang/Throwable" "suppressedExceptions" "Ljava/util/List;" : Cond) ∈ x_tb := x_mem 376 rfl rfl
set_option maxRecDepth 20000 in
theorem mw_357 : (Cond.lays "java/lang/IllegalStateException" "java/lang/Throwable" "detailMessage" "Ljava/lang/String;" : Cond) ∈ x_tb := x_mem 377 rfl rfl
set_option maxRecDepth 20000 in
theorem mw_358 : (Cond.lays "java/lang/IllegalStateException" "java/lang/Throwable" "backtrace" "Ljava/lang/Object;" : Cond) ∈ x_tb := x_mem 378 rfl rfl
set_option maxRecDepth 20000 in
theorem ml_359 : (Cond.stringRef "BreakingDisk" 88 "there are 60 files" : Cond) ∈ lw_tbl := List.mem_of_getElem? (i := 379) rfl
set_option maxRecDepth 20000 in
theorem mw_360 : (Cond.methodLink "BreakingDisk" 90 ⟨"java/lang/IllegalStateException", "<init>", "(Ljava/lang/String;)V"⟩ : Cond) ∈ x_tb := x_mem 380 rfl rfl
set_option maxRecDepth 20000 in
theorem mw_361 : (Cond.instanceMethod ⟨"java/lang/IllegalStateException", "<init>", "(Ljava/lang/String;)V"⟩ : Cond) ∈ x_tb := x_mem 381 rfl rfl
set_option maxRecDepth 20000 in
theorem mw_362 : (Cond.code ⟨"java/lang/IllegalStateException", "<init>", "(Ljava/lang/String;)V"⟩ prog_14_method_2_code 2 none : Cond) ∈ x_tb := x_mem 382 rfl rfl
set_option maxRecDepth 20000 in
theorem mw_363 : (Cond.methodLink "java/lang/IllegalStateException" 7 ⟨"java/lang/RuntimeException", "<init>", "(Ljava/lang/String;)V"⟩ : Cond) ∈ x_tb := x_mem 383 rfl rfl
set_option maxRecDepth 20000 in
theorem mw_364 : (Cond.lays "java/lang/IllegalStateException" "java/lang/Throwable" "depth" "I" : Cond) ∈ x_tb := x_mem 384 rfl rfl
set_option maxRecDepth 20000 in
theorem mw_365 : (Cond.superclass "java/lang/IllegalStateException" "java/lang/RuntimeException" : Cond) ∈ x_tb := x_mem 385 rfl rfl
set_option maxRecDepth 20000 in
theorem mw_366 : (Cond.methodLink "BreakingDisk" 91 ⟨"BreakingDisk", "refuseFullJournal", "()V"⟩ : Cond) ∈ x_tb := x_mem 386 rfl rfl
set_option maxRecDepth 20000 in
theorem ml_367 : (Cond.privateMethod ⟨"BreakingDisk", "refuseFullJournal", "()V"⟩ : Cond) ∈ lw_tbl := List.mem_of_getElem? (i := 387) rfl
set_option maxRecDepth 20000 in
theorem mw_368 : (Cond.instanceMethod ⟨"BreakingDisk", "refuseFullJournal", "()V"⟩ : Cond) ∈ x_tb := x_mem 388 rfl rfl
set_option maxRecDepth 20000 in
theorem mw_369 : (Cond.code ⟨"BreakingDisk", "refuseFullJournal", "()V"⟩ prog_1_method_16_code 1 none : Cond) ∈ x_tb := x_mem 389 rfl rfl
set_option maxRecDepth 20000 in
theorem mw_370 : (Cond.methodLink "BreakingDisk" 172 ⟨"BreakingDisk$Journal", "isFull", "()Z"⟩ : Cond) ∈ x_tb := x_mem 390 rfl rfl
set_option maxRecDepth 20000 in
theorem mw_371 : (Cond.instanceMethod ⟨"BreakingDisk$Journal", "isFull", "()Z"⟩ : Cond) ∈ x_tb := x_mem 391 rfl rfl
set_option maxRecDepth 20000 in
theorem mw_372 : (Cond.selects "BreakingDisk$Journal" ⟨"BreakingDisk$Journal", "isFull", "()Z"⟩ ⟨"BreakingDisk$Journal", "isFull", "()Z"⟩ : Cond) ∈ x_tb := x_mem 392 rfl rfl
set_option maxRecDepth 20000 in
theorem mw_373 : (Cond.code ⟨"BreakingDisk$Journal", "isFull", "()Z"⟩ prog_4_method_2_code 1 (some .boolean) : Cond) ∈ x_tb := x_mem 393 rfl rfl
set_option maxRecDepth 20000 in
theorem ml_374 : (Cond.stringRef "BreakingDisk" 173 "200 operations were done since the latest SYNC" : Cond) ∈ lw_tbl := List.mem_of_getElem? (i := 394) rfl
set_option maxRecDepth 20000 in
theorem mw_375 : (Cond.classLink "BreakingDisk" 94 "BreakingDisk$Operation" : Cond) ∈ x_tb := x_mem 395 rfl rfl
set_option maxRecDepth 20000 in
theorem mw_376 : (Cond.instantiable "BreakingDisk$Operation" 2 : Cond) ∈ x_tb := x_mem 396 rfl rfl
set_option maxRecDepth 20000 in
theorem mw_377 : (Cond.classLink "BreakingDisk" 96 "BreakingDisk$StoredFile" : Cond) ∈ x_tb := x_mem 397 rfl rfl
set_option maxRecDepth 20000 in
theorem mw_378 : (Cond.instantiable "BreakingDisk$StoredFile" 2 : Cond) ∈ x_tb := x_mem 398 rfl rfl
set_option maxRecDepth 20000 in
theorem mw_379 : (Cond.methodLink "BreakingDisk" 98 ⟨"BreakingDisk$StoredFile", "<init>", "(LBreakingDisk$Name;LBreakingDisk$Bytes;)V"⟩ : Cond) ∈ x_tb := x_mem 399 rfl rfl
set_option maxRecDepth 20000 in
theorem mw_380 : (Cond.instanceMethod ⟨"BreakingDisk$StoredFile", "<init>", "(LBreakingDisk$Name;LBreakingDisk$Bytes;)V"⟩ : Cond) ∈ x_tb := x_mem 400 rfl rfl
set_option maxRecDepth 20000 in
theorem mw_381 : (Cond.code ⟨"BreakingDisk$StoredFile", "<init>", "(LBreakingDisk$Name;LBreakingDisk$Bytes;)V"⟩ prog_7_method_1_code 3 none : Cond) ∈ x_tb := x_mem 401 rfl rfl
set_option maxRecDepth 20000 in
theorem mw_382 : (Cond.methodLink "BreakingDisk$StoredFile" 1 ⟨"java/lang/Object", "<init>", "()V"⟩ : Cond) ∈ x_tb := x_mem 402 rfl rfl
set_option maxRecDepth 20000 in
theorem mw_383 : (Cond.fieldLink "BreakingDisk$StoredFile" 7 "BreakingDisk$StoredFile" "name" "LBreakingDisk$Name;" : Cond) ∈ x_tb := x_mem 403 rfl rfl
set_option maxRecDepth 20000 in
theorem ml_384 : (Cond.fieldLinkNest "BreakingDisk" 112 "BreakingDisk$StoredFile" "name" "LBreakingDisk$Name;" "BreakingDisk" : Cond) ∈ lw_tbl := List.mem_of_getElem? (i := 404) rfl
set_option maxRecDepth 20000 in
theorem ml_385 : (Cond.fieldLinkNest "BreakingDisk$Files" 47 "BreakingDisk$StoredFile" "name" "LBreakingDisk$Name;" "BreakingDisk" : Cond) ∈ lw_tbl := List.mem_of_getElem? (i := 405) rfl
set_option maxRecDepth 20000 in
theorem mw_386 : (Cond.fieldLink "BreakingDisk$StoredFile" 13 "BreakingDisk$StoredFile" "content" "LBreakingDisk$Bytes;" : Cond) ∈ x_tb := x_mem 406 rfl rfl
set_option maxRecDepth 20000 in
theorem ml_387 : (Cond.fieldLinkNest "BreakingDisk" 116 "BreakingDisk$StoredFile" "content" "LBreakingDisk$Bytes;" "BreakingDisk" : Cond) ∈ lw_tbl := List.mem_of_getElem? (i := 407) rfl
set_option maxRecDepth 20000 in
theorem mw_388 : (Cond.laysFinal "BreakingDisk$StoredFile" "BreakingDisk$StoredFile" "name" "LBreakingDisk$Name;" : Cond) ∈ x_tb := x_mem 408 rfl rfl
set_option maxRecDepth 20000 in
theorem mw_389 : (Cond.soleField "BreakingDisk$StoredFile" "name" : Cond) ∈ x_tb := x_mem 409 rfl rfl
set_option maxRecDepth 20000 in
theorem mw_390 : (Cond.laysFinal "BreakingDisk$StoredFile" "BreakingDisk$StoredFile" "content" "LBreakingDisk$Bytes;" : Cond) ∈ x_tb := x_mem 410 rfl rfl
set_option maxRecDepth 20000 in
theorem mw_391 : (Cond.soleField "BreakingDisk$StoredFile" "content" : Cond) ∈ x_tb := x_mem 411 rfl rfl
set_option maxRecDepth 20000 in
theorem mw_392 : (Cond.superclass "BreakingDisk$StoredFile" "java/lang/Object" : Cond) ∈ x_tb := x_mem 412 rfl rfl
set_option maxRecDepth 20000 in
theorem mw_393 : (Cond.methodLink "BreakingDisk" 101 ⟨"BreakingDisk$Operation", "<init>", "(LBreakingDisk$Name;LBreakingDisk$StoredFile;)V"⟩ : Cond) ∈ x_tb := x_mem 413 rfl rfl
set_option maxRecDepth 20000 in
theorem mw_394 : (Cond.instanceMethod ⟨"BreakingDisk$Operation", "<init>", "(LBreakingDisk$Name;LBreakingDisk$StoredFile;)V"⟩ : Cond) ∈ x_tb := x_mem 414 rfl rfl
set_option maxRecDepth 20000 in
theorem mw_395 : (Cond.code ⟨"BreakingDisk$Operation", "<init>", "(LBreakingDisk$Name;LBreakingDisk$StoredFile;)V"⟩ prog_6_method_1_code 3 none : Cond) ∈ x_tb := x_mem 415 rfl rfl
set_option maxRecDepth 20000 in
theorem mw_396 : (Cond.methodLink "BreakingDisk$Operation" 1 ⟨"java/lang/Object", "<init>", "()V"⟩ : Cond) ∈ x_tb := x_mem 416 rfl rfl
set_option maxRecDepth 20000 in
theorem mw_397 : (Cond.fieldLink "BreakingDisk$Operation" 7 "BreakingDisk$Operation" "goes" "LBreakingDisk$Name;" : Cond) ∈ x_tb := x_mem 417 rfl rfl
set_option maxRecDepth 20000 in
theorem ml_398 : (Cond.fieldLinkNest "BreakingDisk$Files" 33 "BreakingDisk$Operation" "goes" "LBreakingDisk$Name;" "BreakingDisk" : Cond) ∈ lw_tbl := List.mem_of_getElem? (i := 418) rfl
set_option maxRecDepth 20000 in
theorem mw_399 : (Cond.fieldLink "BreakingDisk$Operation" 13 "BreakingDisk$Operation" "comes" "LBreakingDisk$StoredFile;" : Cond) ∈ x_tb := x_mem 419 rfl rfl
set_option maxRecDepth 20000 in
theorem ml_400 : (Cond.fieldLinkNest "BreakingDisk$Files" 43 "BreakingDisk$Operation" "comes" "LBreakingDisk$StoredFile;" "BreakingDisk" : Cond) ∈ lw_tbl := List.mem_of_getElem? (i := 420) rfl
set_option maxRecDepth 20000 in
theorem mw_401 : (Cond.laysFinal "BreakingDisk$Operation" "BreakingDisk$Operation" "goes" "LBreakingDisk$Name;" : Cond) ∈ x_tb := x_mem 421 rfl rfl
set_option maxRecDepth 20000 in
theorem mw_402 : (Cond.soleField "BreakingDisk$Operation" "goes" : Cond) ∈ x_tb := x_mem 422 rfl rfl
set_option maxRecDepth 20000 in
theorem mw_403 : (Cond.laysFinal "BreakingDisk$Operation" "BreakingDisk$Operation" "comes" "LBreakingDisk$StoredFile;" : Cond) ∈ x_tb := x_mem 423 rfl rfl
set_option maxRecDepth 20000 in
theorem mw_404 : (Cond.soleField "BreakingDisk$Operation" "comes" : Cond) ∈ x_tb := x_mem 424 rfl rfl
set_option maxRecDepth 20000 in
theorem mw_405 : (Cond.superclass "BreakingDisk$Operation" "java/lang/Object" : Cond) ∈ x_tb := x_mem 425 rfl rfl
set_option maxRecDepth 20000 in
theorem mw_406 : (Cond.methodLink "BreakingDisk" 104 ⟨"BreakingDisk", "perform", "(LBreakingDisk$Operation;)V"⟩ : Cond) ∈ x_tb := x_mem 426 rfl rfl
set_option maxRecDepth 20000 in
theorem ml_407 : (Cond.privateMethod ⟨"BreakingDisk", "perform", "(LBreakingDisk$Operation;)V"⟩ : Cond) ∈ lw_tbl := List.mem_of_getElem? (i := 427) rfl
set_option maxRecDepth 20000 in
theorem mw_408 : (Cond.instanceMethod ⟨"BreakingDisk", "perform", "(LBreakingDisk$Operation;)V"⟩ : Cond) ∈ x_tb := x_mem 428 rfl rfl
set_option maxRecDepth 20000 in
theorem mw_409 : (Cond.code ⟨"BreakingDisk", "perform", "(LBreakingDisk$Operation;)V"⟩ prog_1_method_19_code 2 none : Cond) ∈ x_tb := x_mem 429 rfl rfl
set_option maxRecDepth 20000 in
theorem mw_410 : (Cond.methodLink "BreakingDisk" 180 ⟨"BreakingDisk$Files", "apply", "(LBreakingDisk$Operation;)V"⟩ : Cond) ∈ x_tb := x_mem 430 rfl rfl
set_option maxRecDepth 20000 in
theorem mw_411 : (Cond.instanceMethod ⟨"BreakingDisk$Files", "apply", "(LBreakingDisk$Operation;)V"⟩ : Cond) ∈ x_tb := x_mem 431 rfl rfl
set_option maxRecDepth 20000 in
theorem mw_412 : (Cond.selects "BreakingDisk$Files" ⟨"BreakingDisk$Files", "apply", "(LBreakingDisk$Operation;)V"⟩ ⟨"BreakingDisk$Files", "apply", "(LBreakingDisk$Operation;)V"⟩ : Cond) ∈ x_tb := x_mem 432 rfl rfl
set_option maxRecDepth 20000 in
theorem mw_413 : (Cond.code ⟨"BreakingDisk$Files", "apply", "(LBreakingDisk$Operation;)V"⟩ prog_3_method_6_code 2 none : Cond) ∈ x_tb := x_mem 433 rfl rfl
set_option maxRecDepth 20000 in
theorem mw_414 : (Cond.methodLink "BreakingDisk$Files" 39 ⟨"BreakingDisk$Files", "remove", "(LBreakingDisk$Name;)V"⟩ : Cond) ∈ x_tb := x_mem 434 rfl rfl
set_option maxRecDepth 20000 in
theorem ml_415 : (Cond.privateMethod ⟨"BreakingDisk$Files", "remove", "(LBreakingDisk$Name;)V"⟩ : Cond) ∈ lw_tbl := List.mem_of_getElem? (i := 435) rfl
set_option maxRecDepth 20000 in
theorem mw_416 : (Cond.instanceMethod ⟨"BreakingDisk$Files", "remove", "(LBreakingDisk$Name;)V"⟩ : Cond) ∈ x_tb := x_mem 436 rfl rfl
set_option maxRecDepth 20000 in
theorem mw_417 : (Cond.code ⟨"BreakingDisk$Files", "remove", "(LBreakingDisk$Name;)V"⟩ prog_3_method_11_code 4 none : Cond) ∈ x_tb := x_mem 437 rfl rfl
set_option maxRecDepth 20000 in
theorem mw_418 : (Cond.methodLink "BreakingDisk" 183 ⟨"BreakingDisk$Journal", "append", "(LBreakingDisk$Operation;)V"⟩ : Cond) ∈ x_tb := x_mem 438 rfl rfl
set_option maxRecDepth 20000 in
theorem mw_419 : (Cond.instanceMethod ⟨"BreakingDisk$Journal", "append", "(LBreakingDisk$Operation;)V"⟩ : Cond) ∈ x_tb := x_mem 439 rfl rfl
set_option maxRecDepth 20000 in
theorem mw_420 : (Cond.selects "BreakingDisk$Journal" ⟨"BreakingDisk$Journal", "append", "(LBreakingDisk$Operation;)V"⟩ ⟨"BreakingDisk$Journal", "append", "(LBreakingDisk$Operation;)V"⟩ : Cond) ∈ x_tb := x_mem 440 rfl rfl
set_option maxRecDepth 20000 in
theorem mw_421 : (Cond.code ⟨"BreakingDisk$Journal", "append", "(LBreakingDisk$Operation;)V"⟩ prog_4_method_3_code 2 none : Cond) ∈ x_tb := x_mem 441 rfl rfl
set_option maxRecDepth 20000 in
theorem mw_422 : (Cond.methodLink "BreakingDiskLaw" 58 ⟨"BreakingDiskLaw", "rename", "(LBreakingDisk;IIII)I"⟩ : Cond) ∈ x_tb := x_mem 442 rfl rfl
set_option maxRecDepth 20000 in
theorem mw_423 : (Cond.static ⟨"BreakingDiskLaw", "rename", "(LBreakingDisk;IIII)I"⟩ : Cond) ∈ x_tb := x_mem 443 rfl rfl
set_option maxRecDepth 20000 in
theorem mw_424 : (Cond.codeWith ⟨"BreakingDiskLaw", "rename", "(LBreakingDisk;IIII)I"⟩ method_5_code 6 (some .int) [(0, 9, 12, 19), (0, 9, 16, 13), (0, 9, 20, 21)] : Cond) ∈ x_tb := x_mem 444 rfl rfl
set_option maxRecDepth 20000 in
theorem mw_425 : (Cond.methodLink "BreakingDiskLaw" 23 ⟨"BreakingDisk", "rename", "(IIII)V"⟩ : Cond) ∈ x_tb := x_mem 445 rfl rfl
set_option maxRecDepth 20000 in
theorem mw_426 : (Cond.instanceMethod ⟨"BreakingDisk", "rename", "(IIII)V"⟩ : Cond) ∈ x_tb := x_mem 446 rfl rfl
set_option maxRecDepth 20000 in
theorem mw_427 : (Cond.selects "BreakingDisk" ⟨"BreakingDisk", "rename", "(IIII)V"⟩ ⟨"BreakingDisk", "rename", "(IIII)V"⟩ : Cond) ∈ x_tb := x_mem 447 rfl rfl
set_option maxRecDepth 20000 in
theorem mw_428 : (Cond.code ⟨"BreakingDisk", "rename", "(IIII)V"⟩ prog_1_method_5_code 6 none : Cond) ∈ x_tb := x_mem 448 rfl rfl
set_option maxRecDepth 20000 in
theorem mw_429 : (Cond.methodLink "BreakingDisk" 108 ⟨"BreakingDisk", "fileToChange", "(II)LBreakingDisk$StoredFile;"⟩ : Cond) ∈ x_tb := x_mem 449 rfl rfl
set_option maxRecDepth 20000 in
theorem ml_430 : (Cond.privateMethod ⟨"BreakingDisk", "fileToChange", "(II)LBreakingDisk$StoredFile;"⟩ : Cond) ∈ lw_tbl := List.mem_of_getElem? (i := 450) rfl
set_option maxRecDepth 20000 in
theorem mw_431 : (Cond.instanceMethod ⟨"BreakingDisk", "fileToChange", "(II)LBreakingDisk$StoredFile;"⟩ : Cond) ∈ x_tb := x_mem 451 rfl rfl
set_option maxRecDepth 20000 in
theorem mw_432 : (Cond.code ⟨"BreakingDisk", "fileToChange", "(II)LBreakingDisk$StoredFile;"⟩ prog_1_method_17_code 4 (some (.object "BreakingDisk$StoredFile")) : Cond) ∈ x_tb := x_mem 452 rfl rfl
set_option maxRecDepth 20000 in
theorem ml_433 : (Cond.stringRef "BreakingDisk" 175 "there is no such file" : Cond) ∈ lw_tbl := List.mem_of_getElem? (i := 453) rfl
set_option maxRecDepth 20000 in
theorem mw_434 : (Cond.methodLink "BreakingDiskLaw" 62 ⟨"BreakingDiskLaw", "delete", "(LBreakingDisk;II)I"⟩ : Cond) ∈ x_tb := x_mem 454 rfl rfl
set_option maxRecDepth 20000 in
theorem mw_435 : (Cond.static ⟨"BreakingDiskLaw", "delete", "(LBreakingDisk;II)I"⟩ : Cond) ∈ x_tb := x_mem 455 rfl rfl
set_option maxRecDepth 20000 in
theorem mw_436 : (Cond.codeWith ⟨"BreakingDiskLaw", "delete", "(LBreakingDisk;II)I"⟩ method_6_code 4 (some .int) [(0, 6, 9, 19), (0, 6, 12, 13), (0, 6, 15, 21)] : Cond) ∈ x_tb := x_mem 456 rfl rfl
set_option maxRecDepth 20000 in
theorem mw_437 : (Cond.methodLink "BreakingDiskLaw" 27 ⟨"BreakingDisk", "delete", "(II)V"⟩ : Cond) ∈ x_tb := x_mem 457 rfl rfl
set_option maxRecDepth 20000 in
theorem mw_438 : (Cond.instanceMethod ⟨"BreakingDisk", "delete", "(II)V"⟩ : Cond) ∈ x_tb := x_mem 458 rfl rfl
set_option maxRecDepth 20000 in
theorem mw_439 : (Cond.selects "BreakingDisk" ⟨"BreakingDisk", "delete", "(II)V"⟩ ⟨"BreakingDisk", "delete", "(II)V"⟩ : Cond) ∈ x_tb := x_mem 459 rfl rfl
set_option maxRecDepth 20000 in
theorem mw_440 : (Cond.code ⟨"BreakingDisk", "delete", "(II)V"⟩ prog_1_method_6_code 4 none : Cond) ∈ x_tb := x_mem 460 rfl rfl
set_option maxRecDepth 20000 in
theorem mw_441 : (Cond.methodLink "BreakingDiskLaw" 69 ⟨"BreakingDiskLaw", "breakOff", "(LBreakingDisk;I[J)I"⟩ : Cond) ∈ x_tb := x_mem 461 rfl rfl
set_option maxRecDepth 20000 in
theorem mw_442 : (Cond.static ⟨"BreakingDiskLaw", "breakOff", "(LBreakingDisk;I[J)I"⟩ : Cond) ∈ x_tb := x_mem 462 rfl rfl
set_option maxRecDepth 20000 in
theorem mw_443 : (Cond.codeWith ⟨"BreakingDiskLaw", "breakOff", "(LBreakingDisk;I[J)I"⟩ method_7_code 4 (some .int) [(0, 9, 12, 13)] : Cond) ∈ x_tb := x_mem 463 rfl rfl
set_option maxRecDepth 20000 in
theorem mw_444 : (Cond.methodLink "BreakingDiskLaw" 30 ⟨"BreakingDisk", "breakOff", "(I)I"⟩ : Cond) ∈ x_tb := x_mem 464 rfl rfl
set_option maxRecDepth 20000 in
theorem mw_445 : (Cond.instanceMethod ⟨"BreakingDisk", "breakOff", "(I)I"⟩ : Cond) ∈ x_tb := x_mem 465 rfl rfl
set_option maxRecDepth 20000 in
theorem mw_446 : (Cond.selects "BreakingDisk" ⟨"BreakingDisk", "breakOff", "(I)I"⟩ ⟨"BreakingDisk", "breakOff", "(I)I"⟩ : Cond) ∈ x_tb := x_mem 466 rfl rfl
set_option maxRecDepth 20000 in
theorem mw_447 : (Cond.code ⟨"BreakingDisk", "breakOff", "(I)I"⟩ prog_1_method_8_code 3 (some .int) : Cond) ∈ x_tb := x_mem 467 rfl rfl
set_option maxRecDepth 20000 in
theorem ml_448 : (Cond.stringRef "BreakingDisk" 127 "n is below 0" : Cond) ∈ lw_tbl := List.mem_of_getElem? (i := 468) rfl
set_option maxRecDepth 20000 in
theorem mw_449 : (Cond.methodLink "BreakingDisk" 129 ⟨"java/lang/Math", "min", "(II)I"⟩ : Cond) ∈ x_tb := x_mem 469 rfl rfl
set_option maxRecDepth 20000 in
theorem mw_450 : (Cond.methodLink "BreakingDisk" 135 ⟨"BreakingDisk$Journal", "replayFirst", "(ILBreakingDisk$Files;)V"⟩ : Cond) ∈ x_tb := x_mem 470 rfl rfl
set_option maxRecDepth 20000 in
theorem mw_451 : (Cond.instanceMethod ⟨"BreakingDisk$Journal", "replayFirst", "(ILBreakingDisk$Files;)V"⟩ : Cond) ∈ x_tb := x_mem 471 rfl rfl
set_option maxRecDepth 20000 in
theorem mw_452 : (Cond.selects "BreakingDisk$Journal" ⟨"BreakingDisk$Journal", "replayFirst", "(ILBreakingDisk$Files;)V"⟩ ⟨"BreakingDisk$Journal", "replayFirst", "(ILBreakingDisk$Files;)V"⟩ : Cond) ∈ x_tb := x_mem 472 rfl rfl
set_option maxRecDepth 20000 in
theorem mw_453 : (Cond.code ⟨"BreakingDisk$Journal", "replayFirst", "(ILBreakingDisk$Files;)V"⟩ prog_4_method_4_code 5 none : Cond) ∈ x_tb := x_mem 473 rfl rfl
set_option maxRecDepth 20000 in
theorem mw_454 : (Cond.methodLink "BreakingDisk$Journal" 21 ⟨"java/lang/Math", "min", "(II)I"⟩ : Cond) ∈ x_tb := x_mem 474 rfl rfl
set_option maxRecDepth 20000 in
theorem mw_455 : (Cond.methodLink "BreakingDisk$Journal" 27 ⟨"BreakingDisk$Files", "apply", "(LBreakingDisk$Operation;)V"⟩ : Cond) ∈ x_tb := x_mem 475 rfl rfl
set_option maxRecDepth 20000 in
theorem mw_456 : (Cond.classLink "BreakingDiskLaw" 35 "BreakingDiskModel" : Cond) ∈ x_tb := x_mem 476 rfl rfl
set_option maxRecDepth 20000 in
theorem mw_457 : (Cond.instantiable "BreakingDiskModel" 23 : Cond) ∈ x_tb := x_mem 477 rfl rfl
set_option maxRecDepth 20000 in
theorem mw_458 : (Cond.methodLink "BreakingDiskLaw" 37 ⟨"BreakingDiskModel", "<init>", "()V"⟩ : Cond) ∈ x_tb := x_mem 478 rfl rfl
set_option maxRecDepth 20000 in
theorem mw_459 : (Cond.instanceMethod ⟨"BreakingDiskModel", "<init>", "()V"⟩ : Cond) ∈ x_tb := x_mem 479 rfl rfl
set_option maxRecDepth 20000 in
theorem mw_460 : (Cond.code ⟨"BreakingDiskModel", "<init>", "()V"⟩ prog_10_method_1_code 1 none : Cond) ∈ x_tb := x_mem 480 rfl rfl
set_option maxRecDepth 20000 in
theorem mw_461 : (Cond.methodLink "BreakingDiskModel" 1 ⟨"java/lang/Object", "<init>", "()V"⟩ : Cond) ∈ x_tb := x_mem 481 rfl rfl
set_option maxRecDepth 20000 in
theorem mw_462 : (Cond.constant "BreakingDiskModel" 32 (128000 : Int32) : Cond) ∈ x_tb := x_mem 482 rfl rfl
set_option maxRecDepth 20000 in
theorem mw_463 : (Cond.fieldLink "BreakingDiskModel" 57 "BreakingDiskModel" "thrown" "I" : Cond) ∈ x_tb := x_mem 483 rfl rfl
set_option maxRecDepth 20000 in
theorem mw_464 : (Cond.fieldLink "BreakingDiskModel" 7 "BreakingDiskModel" "tape" "[B" : Cond) ∈ x_tb := x_mem 484 rfl rfl
set_option maxRecDepth 20000 in
theorem mw_465 : (Cond.fieldLink "BreakingDiskModel" 13 "BreakingDiskModel" "path" "[B" : Cond) ∈ x_tb := x_mem 485 rfl rfl
set_option maxRecDepth 20000 in
theorem mw_466 : (Cond.fieldLink "BreakingDiskModel" 61 "BreakingDiskModel" "tapeSize" "I" : Cond) ∈ x_tb := x_mem 486 rfl rfl
set_option maxRecDepth 20000 in
theorem mw_467 : (Cond.fieldLink "BreakingDiskModel" 64 "BreakingDiskModel" "pathSize" "I" : Cond) ∈ x_tb := x_mem 487 rfl rfl
set_option maxRecDepth 20000 in
theorem mw_468 : (Cond.fieldLink "BreakingDiskModel" 16 "BreakingDiskModel" "sort" "[I" : Cond) ∈ x_tb := x_mem 488 rfl rfl
set_option maxRecDepth 20000 in
theorem mw_469 : (Cond.fieldLink "BreakingDiskModel" 20 "BreakingDiskModel" "time" "[I" : Cond) ∈ x_tb := x_mem 489 rfl rfl
set_option maxRecDepth 20000 in
theorem mw_470 : (Cond.fieldLink "BreakingDiskModel" 23 "BreakingDiskModel" "pathLong" "[I" : Cond) ∈ x_tb := x_mem 490 rfl rfl
set_option maxRecDepth 20000 in
theorem mw_471 : (Cond.fieldLink "BreakingDiskModel" 26 "BreakingDiskModel" "size" "[I" : Cond) ∈ x_tb := x_mem 491 rfl rfl
set_option maxRecDepth 20000 in
theorem mw_472 : (Cond.fieldLink "BreakingDiskModel" 29 "BreakingDiskModel" "paths" "[B" : Cond) ∈ x_tb := x_mem 492 rfl rfl
set_option maxRecDepth 20000 in
theorem mw_473 : (Cond.fieldLink "BreakingDiskModel" 33 "BreakingDiskModel" "bytes" "[B" : Cond) ∈ x_tb := x_mem 493 rfl rfl
set_option maxRecDepth 20000 in
theorem mw_474 : (Cond.fieldLink "BreakingDiskModel" 67 "BreakingDiskModel" "many" "I" : Cond) ∈ x_tb := x_mem 494 rfl rfl
set_option maxRecDepth 20000 in
theorem mw_475 : (Cond.fieldLink "BreakingDiskModel" 114 "BreakingDiskModel" "kept" "I" : Cond) ∈ x_tb := x_mem 495 rfl rfl
set_option maxRecDepth 20000 in
theorem mw_476 : (Cond.fieldLink "BreakingDiskModel" 86 "BreakingDiskModel" "done" "I" : Cond) ∈ x_tb := x_mem 496 rfl rfl
set_option maxRecDepth 20000 in
theorem mw_477 : (Cond.fieldLink "BreakingDiskModel" 89 "BreakingDiskModel" "all" "I" : Cond) ∈ x_tb := x_mem 497 rfl rfl
set_option maxRecDepth 20000 in
theorem mw_478 : (Cond.fieldLink "BreakingDiskModel" 36 "BreakingDiskModel" "what" "[I" : Cond) ∈ x_tb := x_mem 498 rfl rfl
set_option maxRecDepth 20000 in
theorem mw_479 : (Cond.fieldLink "BreakingDiskModel" 39 "BreakingDiskModel" "toSort" "[I" : Cond) ∈ x_tb := x_mem 499 rfl rfl
set_option maxRecDepth 20000 in
theorem mw_480 : (Cond.fieldLink "BreakingDiskModel" 42 "BreakingDiskModel" "toTime" "[I" : Cond) ∈ x_tb := x_mem 500 rfl rfl
set_option maxRecDepth 20000 in
theorem mw_481 : (Cond.fieldLink "BreakingDiskModel" 123 "BreakingDiskModel" "listed" "I" : Cond) ∈ x_tb := x_mem 501 rfl rfl
set_option maxRecDepth 20000 in
theorem mw_482 : (Cond.fieldLink "BreakingDiskModel" 45 "BreakingDiskModel" "listTime" "[I" : Cond) ∈ x_tb := x_mem 502 rfl rfl
set_option maxRecDepth 20000 in
theorem mw_483 : (Cond.fieldLink "BreakingDiskModel" 48 "BreakingDiskModel" "listLong" "[I" : Cond) ∈ x_tb := x_mem 503 rfl rfl
set_option maxRecDepth 20000 in
theorem mw_484 : (Cond.fieldLink "BreakingDiskModel" 51 "BreakingDiskModel" "order" "[I" : Cond) ∈ x_tb := x_mem 504 rfl rfl
set_option maxRecDepth 20000 in
theorem mw_485 : (Cond.fieldLink "BreakingDiskModel" 54 "BreakingDiskModel" "listPath" "[B" : Cond) ∈ x_tb := x_mem 505 rfl rfl
set_option maxRecDepth 20000 in
theorem mw_486 : (Cond.lays "BreakingDiskModel" "BreakingDiskModel" "thrown" "I" : Cond) ∈ x_tb := x_mem 506 rfl rfl
set_option maxRecDepth 20000 in
theorem mw_487 : (Cond.soleField "BreakingDiskModel" "thrown" : Cond) ∈ x_tb := x_mem 507 rfl rfl
set_option maxRecDepth 20000 in
theorem mw_488 : (Cond.laysFinal "BreakingDiskModel" "BreakingDiskModel" "tape" "[B" : Cond) ∈ x_tb := x_mem 508 rfl rfl
set_option maxRecDepth 20000 in
theorem mw_489 : (Cond.soleField "BreakingDiskModel" "tape" : Cond) ∈ x_tb := x_mem 509 rfl rfl
set_option maxRecDepth 20000 in
theorem mw_490 : (Cond.laysFinal "BreakingDiskModel" "BreakingDiskModel" "path" "[B" : Cond) ∈ x_tb := x_mem 510 rfl rfl
set_option maxRecDepth 20000 in
theorem mw_491 : (Cond.soleField "BreakingDiskModel" "path" : Cond) ∈ x_tb := x_mem 511 rfl rfl
set_option maxRecDepth 20000 in
theorem mw_492 : (Cond.lays "BreakingDiskModel" "BreakingDiskModel" "tapeSize" "I" : Cond) ∈ x_tb := x_mem 512 rfl rfl
set_option maxRecDepth 20000 in
theorem mw_493 : (Cond.soleField "BreakingDiskModel" "tapeSize" : Cond) ∈ x_tb := x_mem 513 rfl rfl
set_option maxRecDepth 20000 in
theorem mw_494 : (Cond.lays "BreakingDiskModel" "BreakingDiskModel" "pathSize" "I" : Cond) ∈ x_tb := x_mem 514 rfl rfl
set_option maxRecDepth 20000 in
theorem mw_495 : (Cond.soleField "BreakingDiskModel" "pathSize" : Cond) ∈ x_tb := x_mem 515 rfl rfl
set_option maxRecDepth 20000 in
theorem mw_496 : (Cond.laysFinal "BreakingDiskModel" "BreakingDiskModel" "sort" "[I" : Cond) ∈ x_tb := x_mem 516 rfl rfl
set_option maxRecDepth 20000 in
theorem mw_497 : (Cond.soleField "BreakingDiskModel" "sort" : Cond) ∈ x_tb := x_mem 517 rfl rfl
set_option maxRecDepth 20000 in
theorem mw_498 : (Cond.laysFinal "BreakingDiskModel" "BreakingDiskModel" "time" "[I" : Cond) ∈ x_tb := x_mem 518 rfl rfl
set_option maxRecDepth 20000 in
theorem mw_499 : (Cond.soleField "BreakingDiskModel" "time" : Cond) ∈ x_tb := x_mem 519 rfl rfl
set_option maxRecDepth 20000 in
theorem mw_500 : (Cond.laysFinal "BreakingDiskModel" "BreakingDiskModel" "pathLong" "[I" : Cond) ∈ x_tb := x_mem 520 rfl rfl
set_option maxRecDepth 20000 in
theorem mw_501 : (Cond.soleField "BreakingDiskModel" "pathLong" : Cond) ∈ x_tb := x_mem 521 rfl rfl
set_option maxRecDepth 20000 in
theorem mw_502 : (Cond.laysFinal "BreakingDiskModel" "BreakingDiskModel" "size" "[I" : Cond) ∈ x_tb := x_mem 522 rfl rfl
set_option maxRecDepth 20000 in
theorem mw_503 : (Cond.soleField "BreakingDiskModel" "size" : Cond) ∈ x_tb := x_mem 523 rfl rfl
set_option maxRecDepth 20000 in
theorem mw_504 : (Cond.laysFinal "BreakingDiskModel" "BreakingDiskModel" "paths" "[B" : Cond) ∈ x_tb := x_mem 524 rfl rfl
set_option maxRecDepth 20000 in
theorem mw_505 : (Cond.soleField "BreakingDiskModel" "paths" : Cond) ∈ x_tb := x_mem 525 rfl rfl
set_option maxRecDepth 20000 in
theorem mw_506 : (Cond.laysFinal "BreakingDiskModel" "BreakingDiskModel" "bytes" "[B" : Cond) ∈ x_tb := x_mem 526 rfl rfl
set_option maxRecDepth 20000 in
theorem mw_507 : (Cond.soleField "BreakingDiskModel" "bytes" : Cond) ∈ x_tb := x_mem 527 rfl rfl
set_option maxRecDepth 20000 in
theorem mw_508 : (Cond.lays "BreakingDiskModel" "BreakingDiskModel" "many" "I" : Cond) ∈ x_tb := x_mem 528 rfl rfl
set_option maxRecDepth 20000 in
theorem mw_509 : (Cond.soleField "BreakingDiskModel" "many" : Cond) ∈ x_tb := x_mem 529 rfl rfl
set_option maxRecDepth 20000 in
theorem mw_510 : (Cond.lays "BreakingDiskModel" "BreakingDiskModel" "kept" "I" : Cond) ∈ x_tb := x_mem 530 rfl rfl
set_option maxRecDepth 20000 in
theorem mw_511 : (Cond.soleField "BreakingDiskModel" "kept" : Cond) ∈ x_tb := x_mem 531 rfl rfl
set_option maxRecDepth 20000 in
theorem mw_512 : (Cond.lays "BreakingDiskModel" "BreakingDiskModel" "done" "I" : Cond) ∈ x_tb := x_mem 532 rfl rfl
set_option maxRecDepth 20000 in
theorem mw_513 : (Cond.soleField "BreakingDiskModel" "done" : Cond) ∈ x_tb := x_mem 533 rfl rfl
set_option maxRecDepth 20000 in
theorem mw_514 : (Cond.lays "BreakingDiskModel" "BreakingDiskModel" "all" "I" : Cond) ∈ x_tb := x_mem 534 rfl rfl
set_option maxRecDepth 20000 in
theorem mw_515 : (Cond.soleField "BreakingDiskModel" "all" : Cond) ∈ x_tb := x_mem 535 rfl rfl
set_option maxRecDepth 20000 in
theorem mw_516 : (Cond.laysFinal "BreakingDiskModel" "BreakingDiskModel" "what" "[I" : Cond) ∈ x_tb := x_mem 536 rfl rfl
set_option maxRecDepth 20000 in
theorem mw_517 : (Cond.soleField "BreakingDiskModel" "what" : Cond) ∈ x_tb := x_mem 537 rfl rfl
set_option maxRecDepth 20000 in
theorem mw_518 : (Cond.laysFinal "BreakingDiskModel" "BreakingDiskModel" "toSort" "[I" : Cond) ∈ x_tb := x_mem 538 rfl rfl
set_option maxRecDepth 20000 in
theorem mw_519 : (Cond.soleField "BreakingDiskModel" "toSort" : Cond) ∈ x_tb := x_mem 539 rfl rfl
set_option maxRecDepth 20000 in
theorem mw_520 : (Cond.laysFinal "BreakingDiskModel" "BreakingDiskModel" "toTime" "[I" : Cond) ∈ x_tb := x_mem 540 rfl rfl
set_option maxRecDepth 20000 in
theorem mw_521 : (Cond.soleField "BreakingDiskModel" "toTime" : Cond) ∈ x_tb := x_mem 541 rfl rfl
set_option maxRecDepth 20000 in
theorem mw_522 : (Cond.lays "BreakingDiskModel" "BreakingDiskModel" "listed" "I" : Cond) ∈ x_tb := x_mem 542 rfl rfl
set_option maxRecDepth 20000 in
theorem mw_523 : (Cond.soleField "BreakingDiskModel" "listed" : Cond) ∈ x_tb := x_mem 543 rfl rfl
set_option maxRecDepth 20000 in
theorem mw_524 : (Cond.laysFinal "BreakingDiskModel" "BreakingDiskModel" "listTime" "[I" : Cond) ∈ x_tb := x_mem 544 rfl rfl
set_option maxRecDepth 20000 in
theorem mw_525 : (Cond.soleField "BreakingDiskModel" "listTime" : Cond) ∈ x_tb := x_mem 545 rfl rfl
set_option maxRecDepth 20000 in
theorem mw_526 : (Cond.laysFinal "BreakingDiskModel" "BreakingDiskModel" "listLong" "[I" : Cond) ∈ x_tb := x_mem 546 rfl rfl
set_option maxRecDepth 20000 in
theorem mw_527 : (Cond.soleField "BreakingDiskModel" "listLong" : Cond) ∈ x_tb := x_mem 547 rfl rfl
set_option maxRecDepth 20000 in
theorem mw_528 : (Cond.laysFinal "BreakingDiskModel" "BreakingDiskModel" "order" "[I" : Cond) ∈ x_tb := x_mem 548 rfl rfl
set_option maxRecDepth 20000 in
theorem mw_529 : (Cond.soleField "BreakingDiskModel" "order" : Cond) ∈ x_tb := x_mem 549 rfl rfl
set_option maxRecDepth 20000 in
theorem mw_530 : (Cond.laysFinal "BreakingDiskModel" "BreakingDiskModel" "listPath" "[B" : Cond) ∈ x_tb := x_mem 550 rfl rfl
set_option maxRecDepth 20000 in
theorem mw_531 : (Cond.soleField "BreakingDiskModel" "listPath" : Cond) ∈ x_tb := x_mem 551 rfl rfl
set_option maxRecDepth 20000 in
theorem mw_532 : (Cond.superclass "BreakingDiskModel" "java/lang/Object" : Cond) ∈ x_tb := x_mem 552 rfl rfl
set_option maxRecDepth 20000 in
theorem mw_533 : (Cond.arrayClass .int : Cond) ∈ x_tb := x_mem 553 rfl rfl
set_option maxRecDepth 20000 in
theorem mw_534 : (Cond.methodLink "BreakingDiskLaw" 51 ⟨"BreakingDiskModel", "thrown", "()I"⟩ : Cond) ∈ x_tb := x_mem 554 rfl rfl
set_option maxRecDepth 20000 in
theorem mw_535 : (Cond.instanceMethod ⟨"BreakingDiskModel", "thrown", "()I"⟩ : Cond) ∈ x_tb := x_mem 555 rfl rfl
set_option maxRecDepth 20000 in
theorem mw_536 : (Cond.selects "BreakingDiskModel" ⟨"BreakingDiskModel", "thrown", "()I"⟩ ⟨"BreakingDiskModel", "thrown", "()I"⟩ : Cond) ∈ x_tb := x_mem 556 rfl rfl
set_option maxRecDepth 20000 in
theorem mw_537 : (Cond.code ⟨"BreakingDiskModel", "thrown", "()I"⟩ prog_10_method_2_code 1 (some .int) : Cond) ∈ x_tb := x_mem 557 rfl rfl
set_option maxRecDepth 20000 in
theorem mw_538 : (Cond.methodLink "BreakingDiskLaw" 44 ⟨"BreakingDiskModel", "put", "(JI)Z"⟩ : Cond) ∈ x_tb := x_mem 558 rfl rfl
set_option maxRecDepth 20000 in
theorem mw_539 : (Cond.instanceMethod ⟨"BreakingDiskModel", "put", "(JI)Z"⟩ : Cond) ∈ x_tb := x_mem 559 rfl rfl
set_option maxRecDepth 20000 in
theorem mw_540 : (Cond.selects "BreakingDiskModel" ⟨"BreakingDiskModel", "put", "(JI)Z"⟩ ⟨"BreakingDiskModel", "put", "(JI)Z"⟩ : Cond) ∈ x_tb := x_mem 560 rfl rfl
set_option maxRecDepth 20000 in
theorem mw_541 : (Cond.code ⟨"BreakingDiskModel", "put", "(JI)Z"⟩ prog_10_method_3_code 5 (some .boolean) : Cond) ∈ x_tb := x_mem 561 rfl rfl
set_option maxRecDepth 20000 in
theorem mw_542 : (Cond.methodLink "BreakingDiskLaw" 50 ⟨"BreakingDiskModel", "path", "()I"⟩ : Cond) ∈ x_tb := x_mem 562 rfl rfl
set_option maxRecDepth 20000 in
theorem mw_543 : (Cond.instanceMethod ⟨"BreakingDiskModel", "path", "()I"⟩ : Cond) ∈ x_tb := x_mem 563 rfl rfl
set_option maxRecDepth 20000 in
theorem mw_544 : (Cond.selects "BreakingDiskModel" ⟨"BreakingDiskModel", "path", "()I"⟩ ⟨"BreakingDiskModel", "path", "()I"⟩ : Cond) ∈ x_tb := x_mem 564 rfl rfl
set_option maxRecDepth 20000 in
theorem mw_545 : (Cond.code ⟨"BreakingDiskModel", "path", "()I"⟩ prog_10_method_4_code 2 (some .int) : Cond) ∈ x_tb := x_mem 565 rfl rfl
set_option maxRecDepth 20000 in
theorem mw_546 : (Cond.methodLink "BreakingDiskLaw" 57 ⟨"BreakingDiskModel", "write", "(II)V"⟩ : Cond) ∈ x_tb := x_mem 566 rfl rfl
set_option maxRecDepth 20000 in
theorem mw_547 : (Cond.instanceMethod ⟨"BreakingDiskModel", "write", "(II)V"⟩ : Cond) ∈ x_tb := x_mem 567 rfl rfl
set_option maxRecDepth 20000 in
theorem mw_548 : (Cond.selects "BreakingDiskModel" ⟨"BreakingDiskModel", "write", "(II)V"⟩ ⟨"BreakingDiskModel", "write", "(II)V"⟩ : Cond) ∈ x_tb := x_mem 568 rfl rfl
set_option maxRecDepth 20000 in
theorem mw_549 : (Cond.code ⟨"BreakingDiskModel", "write", "(II)V"⟩ prog_10_method_15_code 6 none : Cond) ∈ x_tb := x_mem 569 rfl rfl
set_option maxRecDepth 20000 in
theorem mw_550 : (Cond.methodLink "BreakingDiskModel" 95 ⟨"BreakingDiskModel", "findHere", "(II)I"⟩ : Cond) ∈ x_tb := x_mem 570 rfl rfl
set_option maxRecDepth 20000 in
theorem ml_551 : (Cond.privateMethod ⟨"BreakingDiskModel", "findHere", "(II)I"⟩ : Cond) ∈ lw_tbl := List.mem_of_getElem? (i := 571) rfl
set_option maxRecDepth 20000 in
theorem mw_552 : (Cond.instanceMethod ⟨"BreakingDiskModel", "findHere", "(II)I"⟩ : Cond) ∈ x_tb := x_mem 572 rfl rfl
set_option maxRecDepth 20000 in
theorem mw_553 : (Cond.code ⟨"BreakingDiskModel", "findHere", "(II)I"⟩ prog_10_method_14_code 6 (some .int) : Cond) ∈ x_tb := x_mem 573 rfl rfl
set_option maxRecDepth 20000 in
theorem mw_554 : (Cond.methodLink "BreakingDiskModel" 99 ⟨"BreakingDiskModel", "isName", "(II)Z"⟩ : Cond) ∈ x_tb := x_mem 574 rfl rfl
set_option maxRecDepth 20000 in
theorem mw_555 : (Cond.static ⟨"BreakingDiskModel", "isName", "(II)Z"⟩ : Cond) ∈ x_tb := x_mem 575 rfl rfl
set_option maxRecDepth 20000 in
theorem mw_556 : (Cond.code ⟨"BreakingDiskModel", "isName", "(II)Z"⟩ prog_10_method_12_code 2 (some .boolean) : Cond) ∈ x_tb := x_mem 576 rfl rfl
set_option maxRecDepth 20000 in
theorem mw_557 : (Cond.methodLink "BreakingDiskModel" 102 ⟨"BreakingDiskModel", "entry", "()I"⟩ : Cond) ∈ x_tb := x_mem 577 rfl rfl
set_option maxRecDepth 20000 in
theorem ml_558 : (Cond.privateMethod ⟨"BreakingDiskModel", "entry", "()I"⟩ : Cond) ∈ lw_tbl := List.mem_of_getElem? (i := 578) rfl
set_option maxRecDepth 20000 in
theorem mw_559 : (Cond.instanceMethod ⟨"BreakingDiskModel", "entry", "()I"⟩ : Cond) ∈ x_tb := x_mem 579 rfl rfl
set_option maxRecDepth 20000 in
theorem mw_560 : (Cond.code ⟨"BreakingDiskModel", "entry", "()I"⟩ prog_10_method_13_code 1 (some .int) : Cond) ∈ x_tb := x_mem 580 rfl rfl
set_option maxRecDepth 20000 in
theorem mw_561 : (Cond.methodLink "BreakingDiskModel" 106 ⟨"BreakingDiskModel", "name", "(III)V"⟩ : Cond) ∈ x_tb := x_mem 581 rfl rfl
set_option maxRecDepth 20000 in
theorem ml_562 : (Cond.privateMethod ⟨"BreakingDiskModel", "name", "(III)V"⟩ : Cond) ∈ lw_tbl := List.mem_of_getElem? (i := 582) rfl
set_option maxRecDepth 20000 in
theorem mw_563 : (Cond.instanceMethod ⟨"BreakingDiskModel", "name", "(III)V"⟩ : Cond) ∈ x_tb := x_mem 583 rfl rfl
set_option maxRecDepth 20000 in
theorem mw_564 : (Cond.code ⟨"BreakingDiskModel", "name", "(III)V"⟩ prog_10_method_6_code 5 none : Cond) ∈ x_tb := x_mem 584 rfl rfl
set_option maxRecDepth 20000 in
theorem mw_565 : (Cond.methodLink "BreakingDiskModel" 110 ⟨"BreakingDiskModel", "add", "(IIII)V"⟩ : Cond) ∈ x_tb := x_mem 585 rfl rfl
set_option maxRecDepth 20000 in
theorem ml_566 : (Cond.privateMethod ⟨"BreakingDiskModel", "add", "(IIII)V"⟩ : Cond) ∈ lw_tbl := List.mem_of_getElem? (i := 586) rfl
set_option maxRecDepth 20000 in
theorem mw_567 : (Cond.instanceMethod ⟨"BreakingDiskModel", "add", "(IIII)V"⟩ : Cond) ∈ x_tb := x_mem 587 rfl rfl
set_option maxRecDepth 20000 in
theorem mw_568 : (Cond.code ⟨"BreakingDiskModel", "add", "(IIII)V"⟩ prog_10_method_11_code 5 none : Cond) ∈ x_tb := x_mem 588 rfl rfl
set_option maxRecDepth 20000 in
theorem mw_569 : (Cond.methodLink "BreakingDiskModel" 92 ⟨"BreakingDiskModel", "act", "(I)V"⟩ : Cond) ∈ x_tb := x_mem 589 rfl rfl
set_option maxRecDepth 20000 in
theorem ml_570 : (Cond.privateMethod ⟨"BreakingDiskModel", "act", "(I)V"⟩ : Cond) ∈ lw_tbl := List.mem_of_getElem? (i := 590) rfl
set_option maxRecDepth 20000 in
theorem mw_571 : (Cond.instanceMethod ⟨"BreakingDiskModel", "act", "(I)V"⟩ : Cond) ∈ x_tb := x_mem 591 rfl rfl
set_option maxRecDepth 20000 in
theorem mw_572 : (Cond.code ⟨"BreakingDiskModel", "act", "(I)V"⟩ prog_10_method_10_code 5 none : Cond) ∈ x_tb := x_mem 592 rfl rfl
set_option maxRecDepth 20000 in
theorem mw_573 : (Cond.methodLink "BreakingDiskModel" 78 ⟨"BreakingDiskModel", "find", "(III)I"⟩ : Cond) ∈ x_tb := x_mem 593 rfl rfl
set_option maxRecDepth 20000 in
theorem ml_574 : (Cond.privateMethod ⟨"BreakingDiskModel", "find", "(III)I"⟩ : Cond) ∈ lw_tbl := List.mem_of_getElem? (i := 594) rfl
set_option maxRecDepth 20000 in
theorem mw_575 : (Cond.instanceMethod ⟨"BreakingDiskModel", "find", "(III)I"⟩ : Cond) ∈ x_tb := x_mem 595 rfl rfl
set_option maxRecDepth 20000 in
theorem mw_576 : (Cond.code ⟨"BreakingDiskModel", "find", "(III)I"⟩ prog_10_method_8_code 5 (some .int) : Cond) ∈ x_tb := x_mem 596 rfl rfl
set_option maxRecDepth 20000 in
theorem mw_577 : (Cond.methodLink "BreakingDiskModel" 70 ⟨"BreakingDiskModel", "hasPath", "(II)Z"⟩ : Cond) ∈ x_tb := x_mem 597 rfl rfl
set_option maxRecDepth 20000 in
theorem ml_578 : (Cond.privateMethod ⟨"BreakingDiskModel", "hasPath", "(II)Z"⟩ : Cond) ∈ lw_tbl := List.mem_of_getElem? (i := 598) rfl
set_option maxRecDepth 20000 in
theorem mw_579 : (Cond.instanceMethod ⟨"BreakingDiskModel", "hasPath", "(II)Z"⟩ : Cond) ∈ x_tb := x_mem 599 rfl rfl
set_option maxRecDepth 20000 in
theorem mw_580 : (Cond.code ⟨"BreakingDiskModel", "hasPath", "(II)Z"⟩ prog_10_method_7_code 5 (some .boolean) : Cond) ∈ x_tb := x_mem 600 rfl rfl
set_option maxRecDepth 20000 in
theorem mw_581 : (Cond.methodLink "BreakingDiskModel" 74 ⟨"BreakingDiskModel", "copy", "(II)V"⟩ : Cond) ∈ x_tb := x_mem 601 rfl rfl
set_option maxRecDepth 20000 in
theorem ml_582 : (Cond.privateMethod ⟨"BreakingDiskModel", "copy", "(II)V"⟩ : Cond) ∈ lw_tbl := List.mem_of_getElem? (i := 602) rfl
set_option maxRecDepth 20000 in
theorem mw_583 : (Cond.instanceMethod ⟨"BreakingDiskModel", "copy", "(II)V"⟩ : Cond) ∈ x_tb := x_mem 603 rfl rfl
set_option maxRecDepth 20000 in
theorem mw_584 : (Cond.code ⟨"BreakingDiskModel", "copy", "(II)V"⟩ prog_10_method_5_code 4 none : Cond) ∈ x_tb := x_mem 604 rfl rfl
set_option maxRecDepth 20000 in
theorem mw_585 : (Cond.methodLink "BreakingDiskModel" 82 ⟨"BreakingDiskModel", "drop", "(I)V"⟩ : Cond) ∈ x_tb := x_mem 605 rfl rfl
set_option maxRecDepth 20000 in
theorem ml_586 : (Cond.privateMethod ⟨"BreakingDiskModel", "drop", "(I)V"⟩ : Cond) ∈ lw_tbl := List.mem_of_getElem? (i := 606) rfl
set_option maxRecDepth 20000 in
theorem mw_587 : (Cond.instanceMethod ⟨"BreakingDiskModel", "drop", "(I)V"⟩ : Cond) ∈ x_tb := x_mem 607 rfl rfl
set_option maxRecDepth 20000 in
theorem mw_588 : (Cond.code ⟨"BreakingDiskModel", "drop", "(I)V"⟩ prog_10_method_9_code 2 none : Cond) ∈ x_tb := x_mem 608 rfl rfl
set_option maxRecDepth 20000 in
theorem mw_589 : (Cond.methodLink "BreakingDiskLaw" 61 ⟨"BreakingDiskModel", "rename", "(IIII)V"⟩ : Cond) ∈ x_tb := x_mem 609 rfl rfl
set_option maxRecDepth 20000 in
theorem mw_590 : (Cond.instanceMethod ⟨"BreakingDiskModel", "rename", "(IIII)V"⟩ : Cond) ∈ x_tb := x_mem 610 rfl rfl
set_option maxRecDepth 20000 in
theorem mw_591 : (Cond.selects "BreakingDiskModel" ⟨"BreakingDiskModel", "rename", "(IIII)V"⟩ ⟨"BreakingDiskModel", "rename", "(IIII)V"⟩ : Cond) ∈ x_tb := x_mem 611 rfl rfl
set_option maxRecDepth 20000 in
theorem mw_592 : (Cond.code ⟨"BreakingDiskModel", "rename", "(IIII)V"⟩ prog_10_method_16_code 7 none : Cond) ∈ x_tb := x_mem 612 rfl rfl
set_option maxRecDepth 20000 in
theorem mw_593 : (Cond.methodLink "BreakingDiskLaw" 64 ⟨"BreakingDiskModel", "delete", "(II)V"⟩ : Cond) ∈ x_tb := x_mem 613 rfl rfl
set_option maxRecDepth 20000 in
theorem mw_594 : (Cond.instanceMethod ⟨"BreakingDiskModel", "delete", "(II)V"⟩ : Cond) ∈ x_tb := x_mem 614 rfl rfl
set_option maxRecDepth 20000 in
theorem mw_595 : (Cond.selects "BreakingDiskModel" ⟨"BreakingDiskModel", "delete", "(II)V"⟩ ⟨"BreakingDiskModel", "delete", "(II)V"⟩ : Cond) ∈ x_tb := x_mem 615 rfl rfl
set_option maxRecDepth 20000 in
theorem mw_596 : (Cond.code ⟨"BreakingDiskModel", "delete", "(II)V"⟩ prog_10_method_17_code 4 none : Cond) ∈ x_tb := x_mem 616 rfl rfl
set_option maxRecDepth 20000 in
theorem mw_597 : (Cond.methodLink "BreakingDiskLaw" 68 ⟨"BreakingDiskModel", "sync", "()I"⟩ : Cond) ∈ x_tb := x_mem 617 rfl rfl
set_option maxRecDepth 20000 in
theorem mw_598 : (Cond.instanceMethod ⟨"BreakingDiskModel", "sync", "()I"⟩ : Cond) ∈ x_tb := x_mem 618 rfl rfl
set_option maxRecDepth 20000 in
theorem mw_599 : (Cond.selects "BreakingDiskModel" ⟨"BreakingDiskModel", "sync", "()I"⟩ ⟨"BreakingDiskModel", "sync", "()I"⟩ : Cond) ∈ x_tb := x_mem 619 rfl rfl
set_option maxRecDepth 20000 in
theorem mw_600 : (Cond.code ⟨"BreakingDiskModel", "sync", "()I"⟩ prog_10_method_19_code 2 (some .int) : Cond) ∈ x_tb := x_mem 620 rfl rfl
set_option maxRecDepth 20000 in
theorem mw_601 : (Cond.methodLink "BreakingDiskModel" 117 ⟨"BreakingDiskModel", "keep", "()V"⟩ : Cond) ∈ x_tb := x_mem 621 rfl rfl
set_option maxRecDepth 20000 in
theorem ml_602 : (Cond.privateMethod ⟨"BreakingDiskModel", "keep", "()V"⟩ : Cond) ∈ lw_tbl := List.mem_of_getElem? (i := 622) rfl
set_option maxRecDepth 20000 in
theorem mw_603 : (Cond.instanceMethod ⟨"BreakingDiskModel", "keep", "()V"⟩ : Cond) ∈ x_tb := x_mem 623 rfl rfl
set_option maxRecDepth 20000 in
theorem mw_604 : (Cond.code ⟨"BreakingDiskModel", "keep", "()V"⟩ prog_10_method_18_code 2 none : Cond) ∈ x_tb := x_mem 624 rfl rfl
set_option maxRecDepth 20000 in
theorem mw_605 : (Cond.methodLink "BreakingDiskLaw" 72 ⟨"BreakingDiskModel", "breakOff", "(I)I"⟩ : Cond) ∈ x_tb := x_mem 625 rfl rfl
set_option maxRecDepth 20000 in
theorem mw_606 : (Cond.instanceMethod ⟨"BreakingDiskModel", "breakOff", "(I)I"⟩ : Cond) ∈ x_tb := x_mem 626 rfl rfl
set_option maxRecDepth 20000 in
theorem mw_607 : (Cond.selects "BreakingDiskModel" ⟨"BreakingDiskModel", "breakOff", "(I)I"⟩ ⟨"BreakingDiskModel", "breakOff", "(I)I"⟩ : Cond) ∈ x_tb := x_mem 627 rfl rfl
set_option maxRecDepth 20000 in
theorem mw_608 : (Cond.code ⟨"BreakingDiskModel", "breakOff", "(I)I"⟩ prog_10_method_20_code 4 (some .int) : Cond) ∈ x_tb := x_mem 628 rfl rfl
set_option maxRecDepth 20000 in
theorem mw_609 : (Cond.methodLink "BreakingDiskLaw" 77 ⟨"BreakingDiskModel", "size", "(II)I"⟩ : Cond) ∈ x_tb := x_mem 629 rfl rfl
set_option maxRecDepth 20000 in
theorem mw_610 : (Cond.instanceMethod ⟨"BreakingDiskModel", "size", "(II)I"⟩ : Cond) ∈ x_tb := x_mem 630 rfl rfl
set_option maxRecDepth 20000 in
theorem mw_611 : (Cond.selects "BreakingDiskModel" ⟨"BreakingDiskModel", "size", "(II)I"⟩ ⟨"BreakingDiskModel", "size", "(II)I"⟩ : Cond) ∈ x_tb := x_mem 631 rfl rfl
set_option maxRecDepth 20000 in
theorem mw_612 : (Cond.code ⟨"BreakingDiskModel", "size", "(II)I"⟩ prog_10_method_21_code 4 (some .int) : Cond) ∈ x_tb := x_mem 632 rfl rfl
set_option maxRecDepth 20000 in
theorem mw_613 : (Cond.methodLink "BreakingDiskLaw" 82 ⟨"BreakingDiskModel", "at", "(III)I"⟩ : Cond) ∈ x_tb := x_mem 633 rfl rfl
set_option maxRecDepth 20000 in
theorem mw_614 : (Cond.instanceMethod ⟨"BreakingDiskModel", "at", "(III)I"⟩ : Cond) ∈ x_tb := x_mem 634 rfl rfl
set_option maxRecDepth 20000 in
theorem mw_615 : (Cond.selects "BreakingDiskModel" ⟨"BreakingDiskModel", "at", "(III)I"⟩ ⟨"BreakingDiskModel", "at", "(III)I"⟩ : Cond) ∈ x_tb := x_mem 635 rfl rfl
set_option maxRecDepth 20000 in
theorem mw_616 : (Cond.code ⟨"BreakingDiskModel", "at", "(III)I"⟩ prog_10_method_22_code 5 (some .int) : Cond) ∈ x_tb := x_mem 636 rfl rfl
set_option maxRecDepth 20000 in
theorem mw_617 : (Cond.methodLink "BreakingDiskLaw" 86 ⟨"BreakingDiskModel", "list", "(I)I"⟩ : Cond) ∈ x_tb := x_mem 637 rfl rfl
set_option maxRecDepth 20000 in
theorem mw_618 : (Cond.instanceMethod ⟨"BreakingDiskModel", "list", "(I)I"⟩ : Cond) ∈ x_tb := x_mem 638 rfl rfl
set_option maxRecDepth 20000 in
theorem mw_619 : (Cond.selects "BreakingDiskModel" ⟨"BreakingDiskModel", "list", "(I)I"⟩ ⟨"BreakingDiskModel", "list", "(I)I"⟩ : Cond) ∈ x_tb := x_mem 639 rfl rfl
set_option maxRecDepth 20000 in
theorem mw_620 : (Cond.code ⟨"BreakingDiskModel", "list", "(I)I"⟩ prog_10_method_25_code 5 (some .int) : Cond) ∈ x_tb := x_mem 640 rfl rfl
set_option maxRecDepth 20000 in
theorem mw_621 : (Cond.methodLink "BreakingDiskModel" 126 ⟨"BreakingDiskModel", "isAhead", "(II)Z"⟩ : Cond) ∈ x_tb := x_mem 641 rfl rfl
set_option maxRecDepth 20000 in
theorem ml_622 : (Cond.privateMethod ⟨"BreakingDiskModel", "isAhead", "(II)Z"⟩ : Cond) ∈ lw_tbl := List.mem_of_getElem? (i := 642) rfl
set_option maxRecDepth 20000 in
theorem mw_623 : (Cond.instanceMethod ⟨"BreakingDiskModel", "isAhead", "(II)Z"⟩ : Cond) ∈ x_tb := x_mem 643 rfl rfl
set_option maxRecDepth 20000 in
theorem mw_624 : (Cond.code ⟨"BreakingDiskModel", "isAhead", "(II)Z"⟩ prog_10_method_24_code 4 (some .boolean) : Cond) ∈ x_tb := x_mem 644 rfl rfl
set_option maxRecDepth 20000 in
theorem mw_625 : (Cond.methodLink "BreakingDiskModel" 120 ⟨"BreakingDiskModel", "rank", "(II)I"⟩ : Cond) ∈ x_tb := x_mem 645 rfl rfl
set_option maxRecDepth 20000 in
theorem ml_626 : (Cond.privateMethod ⟨"BreakingDiskModel", "rank", "(II)I"⟩ : Cond) ∈ lw_tbl := List.mem_of_getElem? (i := 646) rfl
set_option maxRecDepth 20000 in
theorem mw_627 : (Cond.instanceMethod ⟨"BreakingDiskModel", "rank", "(II)I"⟩ : Cond) ∈ x_tb := x_mem 647 rfl rfl
set_option maxRecDepth 20000 in
theorem mw_628 : (Cond.code ⟨"BreakingDiskModel", "rank", "(II)I"⟩ prog_10_method_23_code 4 (some .int) : Cond) ∈ x_tb := x_mem 648 rfl rfl
set_option maxRecDepth 20000 in
theorem mw_629 : (Cond.methodLink "BreakingDiskLaw" 90 ⟨"BreakingDiskModel", "listed", "(II)I"⟩ : Cond) ∈ x_tb := x_mem 649 rfl rfl
set_option maxRecDepth 20000 in
theorem mw_630 : (Cond.instanceMethod ⟨"BreakingDiskModel", "listed", "(II)I"⟩ : Cond) ∈ x_tb := x_mem 650 rfl rfl
set_option maxRecDepth 20000 in
theorem mw_631 : (Cond.selects "BreakingDiskModel" ⟨"BreakingDiskModel", "listed", "(II)I"⟩ ⟨"BreakingDiskModel", "listed", "(II)I"⟩ : Cond) ∈ x_tb := x_mem 651 rfl rfl
set_option maxRecDepth 20000 in
theorem mw_632 : (Cond.code ⟨"BreakingDiskModel", "listed", "(II)I"⟩ prog_10_method_26_code 3 (some .int) : Cond) ∈ x_tb := x_mem 652 rfl rfl
set_option maxRecDepth 20000 in
theorem mw_633 : (Cond.methodLink "BreakingDiskLaw" 94 ⟨"BreakingDiskModel", "count", "(I)I"⟩ : Cond) ∈ x_tb := x_mem 653 rfl rfl
set_option maxRecDepth 20000 in
theorem mw_634 : (Cond.instanceMethod ⟨"BreakingDiskModel", "count", "(I)I"⟩ : Cond) ∈ x_tb := x_mem 654 rfl rfl
set_option maxRecDepth 20000 in
theorem mw_635 : (Cond.selects "BreakingDiskModel" ⟨"BreakingDiskModel", "count", "(I)I"⟩ ⟨"BreakingDiskModel", "count", "(I)I"⟩ : Cond) ∈ x_tb := x_mem 655 rfl rfl
set_option maxRecDepth 20000 in
theorem mw_636 : (Cond.code ⟨"BreakingDiskModel", "count", "(I)I"⟩ prog_10_method_27_code 4 (some .int) : Cond) ∈ x_tb := x_mem 656 rfl rfl
set_option maxRecDepth 20000 in
theorem mw_637 : (Cond.constantLong "BreakingDiskLaw" 38 (4294967295 : Int64) : Cond) ∈ x_tb := x_mem 657 rfl rfl
set_option maxRecDepth 20000 in
theorem mw_638 : (Cond.arrayClass .long : Cond) ∈ x_tb := x_mem 658 rfl rfl
set_option maxRecDepth 20000 in
theorem mw_639 : (Cond.sameMethod "java/lang/Throwable" "java/lang/Throwable" "fillInStackTrace" "(I)Ljava/lang/Throwable;" : Cond) ∈ x_tb := x_mem 659 rfl rfl
theorem ms_0 : (Cond.selects "BreakingDisk" ⟨"BreakingDisk", "nameOf", "(II)LBreakingDisk$Name;"⟩ ⟨"BreakingDisk", "nameOf", "(II)LBreakingDisk$Name;"⟩ : Cond) ∈ x_tb := x_mem 0 rfl rfl
theorem ms_1 : (Cond.selects "BreakingDisk$Files" ⟨"BreakingDisk$Files", "indexOf", "(LBreakingDisk$Name;)I"⟩ ⟨"BreakingDisk$Files", "indexOf", "(LBreakingDisk$Name;)I"⟩ : Cond) ∈ x_tb := x_mem 1 rfl rfl
theorem ms_2 : (Cond.selects "BreakingDisk$Files" ⟨"BreakingDisk$Files", "insert", "(LBreakingDisk$StoredFile;)V"⟩ ⟨"BreakingDisk$Files", "insert", "(LBreakingDisk$StoredFile;)V"⟩ : Cond) ∈ x_tb := x_mem 2 rfl rfl
theorem ms_3 : (Cond.selects "java/lang/Throwable" ⟨"java/lang/Throwable", "fillInStackTrace", "(I)Ljava/lang/Throwable;"⟩ ⟨"java/lang/Throwable", "fillInStackTrace", "(I)Ljava/lang/Throwable;"⟩ : Cond) ∈ x_tb := x_mem 3 rfl rfl
theorem ms_4 : (Cond.selects "BreakingDisk" ⟨"BreakingDisk", "refuseFullJournal", "()V"⟩ ⟨"BreakingDisk", "refuseFullJournal", "()V"⟩ : Cond) ∈ x_tb := x_mem 4 rfl rfl
theorem ms_5 : (Cond.selects "BreakingDisk" ⟨"BreakingDisk", "perform", "(LBreakingDisk$Operation;)V"⟩ ⟨"BreakingDisk", "perform", "(LBreakingDisk$Operation;)V"⟩ : Cond) ∈ x_tb := x_mem 5 rfl rfl
theorem ms_6 : (Cond.selects "BreakingDisk$Files" ⟨"BreakingDisk$Files", "remove", "(LBreakingDisk$Name;)V"⟩ ⟨"BreakingDisk$Files", "remove", "(LBreakingDisk$Name;)V"⟩ : Cond) ∈ x_tb := x_mem 6 rfl rfl
theorem ms_7 : (Cond.selects "BreakingDisk" ⟨"BreakingDisk", "fileToChange", "(II)LBreakingDisk$StoredFile;"⟩ ⟨"BreakingDisk", "fileToChange", "(II)LBreakingDisk$StoredFile;"⟩ : Cond) ∈ x_tb := x_mem 7 rfl rfl
theorem ms_8 : (Cond.selects "BreakingDiskModel" ⟨"BreakingDiskModel", "findHere", "(II)I"⟩ ⟨"BreakingDiskModel", "findHere", "(II)I"⟩ : Cond) ∈ x_tb := x_mem 8 rfl rfl
theorem ms_9 : (Cond.selects "BreakingDiskModel" ⟨"BreakingDiskModel", "entry", "()I"⟩ ⟨"BreakingDiskModel", "entry", "()I"⟩ : Cond) ∈ x_tb := x_mem 9 rfl rfl
theorem ms_10 : (Cond.selects "BreakingDiskModel" ⟨"BreakingDiskModel", "name", "(III)V"⟩ ⟨"BreakingDiskModel", "name", "(III)V"⟩ : Cond) ∈ x_tb := x_mem 10 rfl rfl
theorem ms_11 : (Cond.selects "BreakingDiskModel" ⟨"BreakingDiskModel", "add", "(IIII)V"⟩ ⟨"BreakingDiskModel", "add", "(IIII)V"⟩ : Cond) ∈ x_tb := x_mem 11 rfl rfl
theorem ms_12 : (Cond.selects "BreakingDiskModel" ⟨"BreakingDiskModel", "act", "(I)V"⟩ ⟨"BreakingDiskModel", "act", "(I)V"⟩ : Cond) ∈ x_tb := x_mem 12 rfl rfl
theorem ms_13 : (Cond.selects "BreakingDiskModel" ⟨"BreakingDiskModel", "find", "(III)I"⟩ ⟨"BreakingDiskModel", "find", "(III)I"⟩ : Cond) ∈ x_tb := x_mem 13 rfl rfl
theorem ms_14 : (Cond.selects "BreakingDiskModel" ⟨"BreakingDiskModel", "hasPath", "(II)Z"⟩ ⟨"BreakingDiskModel", "hasPath", "(II)Z"⟩ : Cond) ∈ x_tb := x_mem 14 rfl rfl
theorem ms_15 : (Cond.selects "BreakingDiskModel" ⟨"BreakingDiskModel", "copy", "(II)V"⟩ ⟨"BreakingDiskModel", "copy", "(II)V"⟩ : Cond) ∈ x_tb := x_mem 15 rfl rfl
theorem ms_16 : (Cond.selects "BreakingDiskModel" ⟨"BreakingDiskModel", "drop", "(I)V"⟩ ⟨"BreakingDiskModel", "drop", "(I)V"⟩ : Cond) ∈ x_tb := x_mem 16 rfl rfl
theorem ms_17 : (Cond.selects "BreakingDiskModel" ⟨"BreakingDiskModel", "keep", "()V"⟩ ⟨"BreakingDiskModel", "keep", "()V"⟩ : Cond) ∈ x_tb := x_mem 17 rfl rfl
theorem ms_18 : (Cond.selects "BreakingDiskModel" ⟨"BreakingDiskModel", "isAhead", "(II)Z"⟩ ⟨"BreakingDiskModel", "isAhead", "(II)Z"⟩ : Cond) ∈ x_tb := x_mem 18 rfl rfl
theorem ms_19 : (Cond.selects "BreakingDiskModel" ⟨"BreakingDiskModel", "rank", "(II)I"⟩ ⟨"BreakingDiskModel", "rank", "(II)I"⟩ : Cond) ∈ x_tb := x_mem 19 rfl rfl
def T_By : u_T := fun k => match k with
  | _ => ("BreakingDisk$Bytes", "row", "[B", true)
def t_By : Nat → FieldType := fun k => match k with
  | _ => .array .byte
theorem n_By : ∀ a, a < 1 → ∀ b, b < 1 → a ≠ b → (T_By a).2.1 ≠ (T_By b).2.1 := by decide +kernel
theorem t_By_ok : ∀ k, k < 1 → parseFieldDescriptor (T_By k).2.2.1 = some (t_By k) := by decide +kernel
theorem u_By : ∀ w ∈ u_ws "BreakingDisk$Bytes" T_By 1, w ∈ x_tb := List.forall_mem_cons.mpr ⟨mw_82, fun _ h => absurd h List.not_mem_nil⟩
def T_Nm : u_T := fun k => match k with
  | 0 => ("BreakingDisk$Name", "sort", "I", true)
  | 1 => ("BreakingDisk$Name", "time", "I", true)
  | _ => ("BreakingDisk$Name", "path", "LBreakingDisk$Bytes;", true)
def t_Nm : Nat → FieldType := fun k => match k with
  | 0 => .int
  | 1 => .int
  | _ => .object "BreakingDisk$Bytes"
theorem n_Nm : ∀ a, a < 3 → ∀ b, b < 3 → a ≠ b → (T_Nm a).2.1 ≠ (T_Nm b).2.1 := by decide +kernel
theorem t_Nm_ok : ∀ k, k < 3 → parseFieldDescriptor (T_Nm k).2.2.1 = some (t_Nm k) := by decide +kernel
theorem u_Nm : ∀ w ∈ u_ws "BreakingDisk$Name" T_Nm 3, w ∈ x_tb := List.forall_mem_cons.mpr ⟨mw_147, List.forall_mem_cons.mpr ⟨mw_149, List.forall_mem_cons.mpr ⟨mw_151, fun _ h => absurd h List.not_mem_nil⟩⟩⟩
def T_Sf : u_T := fun k => match k with
  | 0 => ("BreakingDisk$StoredFile", "name", "LBreakingDisk$Name;", true)
  | _ => ("BreakingDisk$StoredFile", "content", "LBreakingDisk$Bytes;", true)
def t_Sf : Nat → FieldType := fun k => match k with
  | 0 => .object "BreakingDisk$Name"
  | _ => .object "BreakingDisk$Bytes"
theorem n_Sf : ∀ a, a < 2 → ∀ b, b < 2 → a ≠ b → (T_Sf a).2.1 ≠ (T_Sf b).2.1 := by decide +kernel
theorem t_Sf_ok : ∀ k, k < 2 → parseFieldDescriptor (T_Sf k).2.2.1 = some (t_Sf k) := by decide +kernel
theorem u_Sf : ∀ w ∈ u_ws "BreakingDisk$StoredFile" T_Sf 2, w ∈ x_tb := List.forall_mem_cons.mpr ⟨mw_388, List.forall_mem_cons.mpr ⟨mw_390, fun _ h => absurd h List.not_mem_nil⟩⟩
def T_Op : u_T := fun k => match k with
  | 0 => ("BreakingDisk$Operation", "goes", "LBreakingDisk$Name;", true)
  | _ => ("BreakingDisk$Operation", "comes", "LBreakingDisk$StoredFile;", true)
def t_Op : Nat → FieldType := fun k => match k with
  | 0 => .object "BreakingDisk$Name"
  | _ => .object "BreakingDisk$StoredFile"
theorem n_Op : ∀ a, a < 2 → ∀ b, b < 2 → a ≠ b → (T_Op a).2.1 ≠ (T_Op b).2.1 := by decide +kernel
theorem t_Op_ok : ∀ k, k < 2 → parseFieldDescriptor (T_Op k).2.2.1 = some (t_Op k) := by decide +kernel
theorem u_Op : ∀ w ∈ u_ws "BreakingDisk$Operation" T_Op 2, w ∈ x_tb := List.forall_mem_cons.mpr ⟨mw_401, List.forall_mem_cons.mpr ⟨mw_403, fun _ h => absurd h List.not_mem_nil⟩⟩
def T_Tp : u_T := fun k => match k with
  | 0 => ("BreakingDisk$Tape", "row", "[B", true)
  | _ => ("BreakingDisk$Tape", "length", "I", false)
def t_Tp : Nat → FieldType := fun k => match k with
  | 0 => .array .byte
  | _ => .int
theorem n_Tp : ∀ a, a < 2 → ∀ b, b < 2 → a ≠ b → (T_Tp a).2.1 ≠ (T_Tp b).2.1 := by decide +kernel
theorem t_Tp_ok : ∀ k, k < 2 → parseFieldDescriptor (T_Tp k).2.2.1 = some (t_Tp k) := by decide +kernel
theorem u_Tp : ∀ w ∈ u_ws "BreakingDisk$Tape" T_Tp 2, w ∈ x_tb := List.forall_mem_cons.mpr ⟨mw_37, List.forall_mem_cons.mpr ⟨mw_39, fun _ h => absurd h List.not_mem_nil⟩⟩
def T_Fi : u_T := fun k => match k with
  | 0 => ("BreakingDisk$Files", "row", "[LBreakingDisk$StoredFile;", true)
  | _ => ("BreakingDisk$Files", "length", "I", false)
def t_Fi : Nat → FieldType := fun k => match k with
  | 0 => .array (.object "BreakingDisk$StoredFile")
  | _ => .int
theorem n_Fi : ∀ a, a < 2 → ∀ b, b < 2 → a ≠ b → (T_Fi a).2.1 ≠ (T_Fi b).2.1 := by decide +kernel
theorem t_Fi_ok : ∀ k, k < 2 → parseFieldDescriptor (T_Fi k).2.2.1 = some (t_Fi k) := by decide +kernel
theorem u_Fi : ∀ w ∈ u_ws "BreakingDisk$Files" T_Fi 2, w ∈ x_tb := List.forall_mem_cons.mpr ⟨mw_54, List.forall_mem_cons.mpr ⟨mw_56, fun _ h => absurd h List.not_mem_nil⟩⟩
def T_Jo : u_T := fun k => match k with
  | 0 => ("BreakingDisk$Journal", "row", "[LBreakingDisk$Operation;", true)
  | _ => ("BreakingDisk$Journal", "length", "I", false)
def t_Jo : Nat → FieldType := fun k => match k with
  | 0 => .array (.object "BreakingDisk$Operation")
  | _ => .int
theorem n_Jo : ∀ a, a < 2 → ∀ b, b < 2 → a ≠ b → (T_Jo a).2.1 ≠ (T_Jo b).2.1 := by decide +kernel
theorem t_Jo_ok : ∀ k, k < 2 → parseFieldDescriptor (T_Jo k).2.2.1 = some (t_Jo k) := by decide +kernel
theorem u_Jo : ∀ w ∈ u_ws "BreakingDisk$Journal" T_Jo 2, w ∈ x_tb := List.forall_mem_cons.mpr ⟨mw_70, List.forall_mem_cons.mpr ⟨mw_72, fun _ h => absurd h List.not_mem_nil⟩⟩
def T_Bd : u_T := fun k => match k with
  | 0 => ("BreakingDisk", "tape", "LBreakingDisk$Tape;", true)
  | 1 => ("BreakingDisk", "now", "LBreakingDisk$Files;", true)
  | 2 => ("BreakingDisk", "kept", "LBreakingDisk$Files;", true)
  | 3 => ("BreakingDisk", "told", "LBreakingDisk$Files;", true)
  | 4 => ("BreakingDisk", "journal", "LBreakingDisk$Journal;", true)
  | 5 => ("BreakingDisk", "currentPath", "LBreakingDisk$Bytes;", false)
  | _ => ("BreakingDisk", "allOperations", "I", false)
def t_Bd : Nat → FieldType := fun k => match k with
  | 0 => .object "BreakingDisk$Tape"
  | 1 => .object "BreakingDisk$Files"
  | 2 => .object "BreakingDisk$Files"
  | 3 => .object "BreakingDisk$Files"
  | 4 => .object "BreakingDisk$Journal"
  | 5 => .object "BreakingDisk$Bytes"
  | _ => .int
theorem n_Bd : ∀ a, a < 7 → ∀ b, b < 7 → a ≠ b → (T_Bd a).2.1 ≠ (T_Bd b).2.1 := by decide +kernel
theorem t_Bd_ok : ∀ k, k < 7 → parseFieldDescriptor (T_Bd k).2.2.1 = some (t_Bd k) := by decide +kernel
theorem u_Bd : ∀ w ∈ u_ws "BreakingDisk" T_Bd 7, w ∈ x_tb := List.forall_mem_cons.mpr ⟨mw_92, List.forall_mem_cons.mpr ⟨mw_94, List.forall_mem_cons.mpr ⟨mw_96, List.forall_mem_cons.mpr ⟨mw_98, List.forall_mem_cons.mpr ⟨mw_100, List.forall_mem_cons.mpr ⟨mw_102, List.forall_mem_cons.mpr ⟨mw_104, fun _ h => absurd h List.not_mem_nil⟩⟩⟩⟩⟩⟩⟩
def T_Mo : u_T := fun k => match k with
  | 0 => ("BreakingDiskModel", "thrown", "I", false)
  | 1 => ("BreakingDiskModel", "tape", "[B", true)
  | 2 => ("BreakingDiskModel", "path", "[B", true)
  | 3 => ("BreakingDiskModel", "tapeSize", "I", false)
  | 4 => ("BreakingDiskModel", "pathSize", "I", false)
  | 5 => ("BreakingDiskModel", "sort", "[I", true)
  | 6 => ("BreakingDiskModel", "time", "[I", true)
  | 7 => ("BreakingDiskModel", "pathLong", "[I", true)
  | 8 => ("BreakingDiskModel", "size", "[I", true)
  | 9 => ("BreakingDiskModel", "paths", "[B", true)
  | 10 => ("BreakingDiskModel", "bytes", "[B", true)
  | 11 => ("BreakingDiskModel", "many", "I", false)
  | 12 => ("BreakingDiskModel", "kept", "I", false)
  | 13 => ("BreakingDiskModel", "done", "I", false)
  | 14 => ("BreakingDiskModel", "all", "I", false)
  | 15 => ("BreakingDiskModel", "what", "[I", true)
  | 16 => ("BreakingDiskModel", "toSort", "[I", true)
  | 17 => ("BreakingDiskModel", "toTime", "[I", true)
  | 18 => ("BreakingDiskModel", "listed", "I", false)
  | 19 => ("BreakingDiskModel", "listTime", "[I", true)
  | 20 => ("BreakingDiskModel", "listLong", "[I", true)
  | 21 => ("BreakingDiskModel", "order", "[I", true)
  | _ => ("BreakingDiskModel", "listPath", "[B", true)
def t_Mo : Nat → FieldType := fun k => match k with
  | 0 => .int
  | 1 => .array .byte
  | 2 => .array .byte
  | 3 => .int
  | 4 => .int
  | 5 => .array .int
  | 6 => .array .int
  | 7 => .array .int
  | 8 => .array .int
  | 9 => .array .byte
  | 10 => .array .byte
  | 11 => .int
  | 12 => .int
  | 13 => .int
  | 14 => .int
  | 15 => .array .int
  | 16 => .array .int
  | 17 => .array .int
  | 18 => .int
  | 19 => .array .int
  | 20 => .array .int
  | 21 => .array .int
  | _ => .array .byte
theorem n_Mo : ∀ a, a < 23 → ∀ b, b < 23 → a ≠ b → (T_Mo a).2.1 ≠ (T_Mo b).2.1 := by decide +kernel
theorem t_Mo_ok : ∀ k, k < 23 → parseFieldDescriptor (T_Mo k).2.2.1 = some (t_Mo k) := by decide +kernel
theorem u_Mo : ∀ w ∈ u_ws "BreakingDiskModel" T_Mo 23, w ∈ x_tb := List.forall_mem_cons.mpr ⟨mw_486, List.forall_mem_cons.mpr ⟨mw_488, List.forall_mem_cons.mpr ⟨mw_490, List.forall_mem_cons.mpr ⟨mw_492, List.forall_mem_cons.mpr ⟨mw_494, List.forall_mem_cons.mpr ⟨mw_496, List.forall_mem_cons.mpr ⟨mw_498, List.forall_mem_cons.mpr ⟨mw_500, List.forall_mem_cons.mpr ⟨mw_502, List.forall_mem_cons.mpr ⟨mw_504, List.forall_mem_cons.mpr ⟨mw_506, List.forall_mem_cons.mpr ⟨mw_508, List.forall_mem_cons.mpr ⟨mw_510, List.forall_mem_cons.mpr ⟨mw_512, List.forall_mem_cons.mpr ⟨mw_514, List.forall_mem_cons.mpr ⟨mw_516, List.forall_mem_cons.mpr ⟨mw_518, List.forall_mem_cons.mpr ⟨mw_520, List.forall_mem_cons.mpr ⟨mw_522, List.forall_mem_cons.mpr ⟨mw_524, List.forall_mem_cons.mpr ⟨mw_526, List.forall_mem_cons.mpr ⟨mw_528, List.forall_mem_cons.mpr ⟨mw_530, fun _ h => absurd h List.not_mem_nil⟩⟩⟩⟩⟩⟩⟩⟩⟩⟩⟩⟩⟩⟩⟩⟩⟩⟩⟩⟩⟩⟩⟩
abbrev x_cl : List vw_C := [("BreakingDisk$Bytes", T_By, 1), ("BreakingDisk$Name", T_Nm, 3), ("BreakingDisk$StoredFile", T_Sf, 2), ("BreakingDisk$Operation", T_Op, 2), ("BreakingDisk$Tape", T_Tp, 2), ("BreakingDisk$Files", T_Fi, 2), ("BreakingDisk$Journal", T_Jo, 2), ("BreakingDisk", T_Bd, 7), ("BreakingDiskModel", T_Mo, 23)]
abbrev y_Bd_init : MethodName := ⟨"BreakingDisk", "<init>", "()V"⟩
abbrev w_Bd_init : List Cond := Cond.code y_Bd_init prog_1_method_1_code 1 none :: x_tb
abbrev y_Tp_init : MethodName := ⟨"BreakingDisk$Tape", "<init>", "()V"⟩
abbrev w_Tp_init : List Cond := Cond.code y_Tp_init prog_8_method_1_code 1 none :: x_tb
abbrev y_Fi_init : MethodName := ⟨"BreakingDisk$Files", "<init>", "()V"⟩
abbrev w_Fi_init : List Cond := Cond.code y_Fi_init prog_3_method_1_code 1 none :: x_tb
abbrev y_Jo_init : MethodName := ⟨"BreakingDisk$Journal", "<init>", "()V"⟩
abbrev w_Jo_init : List Cond := Cond.code y_Jo_init prog_4_method_1_code 1 none :: x_tb
abbrev y_By_init : MethodName := ⟨"BreakingDisk$Bytes", "<init>", "([B)V"⟩
abbrev w_By_init : List Cond := Cond.code y_By_init prog_2_method_1_code 2 none :: x_tb
abbrev y_Bd_put : MethodName := ⟨"BreakingDisk", "put", "(JI)Z"⟩
abbrev w_Bd_put : List Cond := Cond.code y_Bd_put prog_1_method_2_code 4 (some .boolean) :: x_tb
abbrev y_Tp_append : MethodName := ⟨"BreakingDisk$Tape", "append", "(JI)Z"⟩
abbrev w_Tp_append : List Cond := Cond.code y_Tp_append prog_8_method_2_code 5 (some .boolean) :: x_tb
abbrev y_Bd_sync : MethodName := ⟨"BreakingDisk", "sync", "()I"⟩
abbrev w_Bd_sync : List Cond := Cond.code y_Bd_sync prog_1_method_7_code 2 (some .int) :: x_tb
abbrev y_Fi_copyFrom : MethodName := ⟨"BreakingDisk$Files", "copyFrom", "(LBreakingDisk$Files;)V"⟩
abbrev w_Fi_copyFrom : List Cond := Cond.code y_Fi_copyFrom prog_3_method_7_code 3 none :: x_tb
abbrev y_Jo_clear : MethodName := ⟨"BreakingDisk$Journal", "clear", "()V"⟩
abbrev w_Jo_clear : List Cond := Cond.code y_Jo_clear prog_4_method_5_code 1 none :: x_tb
abbrev y_Bd_size : MethodName := ⟨"BreakingDisk", "size", "(II)I"⟩
abbrev w_Bd_size : List Cond := Cond.code y_Bd_size prog_1_method_9_code 4 (some .int) :: x_tb
abbrev y_Bd_nameOf : MethodName := ⟨"BreakingDisk", "nameOf", "(II)LBreakingDisk$Name;"⟩
abbrev w_Bd_nameOf : List Cond := Cond.code y_Bd_nameOf prog_1_method_18_code 3 (some (.object "BreakingDisk$Name")) :: x_tb
abbrev y_Nm_init : MethodName := ⟨"BreakingDisk$Name", "<init>", "(IILBreakingDisk$Bytes;)V"⟩
abbrev w_Nm_init : List Cond := Cond.code y_Nm_init prog_5_method_1_code 4 none :: x_tb
abbrev y_Fi_find : MethodName := ⟨"BreakingDisk$Files", "find", "(LBreakingDisk$Name;)LBreakingDisk$StoredFile;"⟩
abbrev w_Fi_find : List Cond := Cond.code y_Fi_find prog_3_method_4_code 2 (some (.object "BreakingDisk$StoredFile")) :: x_tb
abbrev y_Fi_indexOf : MethodName := ⟨"BreakingDisk$Files", "indexOf", "(LBreakingDisk$Name;)I"⟩
abbrev w_Fi_indexOf : List Cond := Cond.code y_Fi_indexOf prog_3_method_10_code 3 (some .int) :: x_tb
abbrev y_Nm_order : MethodName := ⟨"BreakingDisk$Name", "order", "(LBreakingDisk$Name;)I"⟩
abbrev w_Nm_order : List Cond := Cond.code y_Nm_order prog_5_method_2_code 2 (some .int) :: x_tb
abbrev y_It_compare : MethodName := ⟨"java/lang/Integer", "compare", "(II)I"⟩
abbrev w_It_compare : List Cond := Cond.code y_It_compare prog_16_method_40_code 2 (some .int) :: x_tb
abbrev y_By_order : MethodName := ⟨"BreakingDisk$Bytes", "order", "(LBreakingDisk$Bytes;)I"⟩
abbrev w_By_order : List Cond := Cond.code y_By_order prog_2_method_4_code 5 (some .int) :: x_tb
abbrev y_Fi_nth : MethodName := ⟨"BreakingDisk$Files", "nth", "(I)LBreakingDisk$StoredFile;"⟩
abbrev w_Fi_nth : List Cond := Cond.code y_Fi_nth prog_3_method_3_code 2 (some (.object "BreakingDisk$StoredFile")) :: x_tb
abbrev y_By_length : MethodName := ⟨"BreakingDisk$Bytes", "length", "()I"⟩
abbrev w_By_length : List Cond := Cond.code y_By_length prog_2_method_2_code 1 (some .int) :: x_tb
abbrev y_Bd_at : MethodName := ⟨"BreakingDisk", "at", "(III)I"⟩
abbrev w_Bd_at : List Cond := Cond.code y_Bd_at prog_1_method_10_code 5 (some .int) :: x_tb
abbrev y_By_byteAt : MethodName := ⟨"BreakingDisk$Bytes", "byteAt", "(I)I"⟩
abbrev w_By_byteAt : List Cond := Cond.code y_By_byteAt prog_2_method_3_code 2 (some .int) :: x_tb
abbrev y_Bd_list : MethodName := ⟨"BreakingDisk", "list", "(I)I"⟩
abbrev w_Bd_list : List Cond := Cond.code y_Bd_list prog_1_method_11_code 2 (some .int) :: x_tb
abbrev y_Bd_isSort : MethodName := ⟨"BreakingDisk", "isSort", "(I)Z"⟩
abbrev w_Bd_isSort : List Cond := Cond.code y_Bd_isSort prog_1_method_14_code 1 (some .boolean) :: x_tb
abbrev y_Fi_copySortFrom : MethodName := ⟨"BreakingDisk$Files", "copySortFrom", "(LBreakingDisk$Files;I)V"⟩
abbrev w_Fi_copySortFrom : List Cond := Cond.code y_Fi_copySortFrom prog_3_method_8_code 4 none :: x_tb
abbrev y_Fi_isOfSort : MethodName := ⟨"BreakingDisk$Files", "isOfSort", "(LBreakingDisk$StoredFile;I)Z"⟩
abbrev w_Fi_isOfSort : List Cond := Cond.code y_Fi_isOfSort prog_3_method_9_code 2 (some .boolean) :: x_tb
abbrev y_Fi_insert : MethodName := ⟨"BreakingDisk$Files", "insert", "(LBreakingDisk$StoredFile;)V"⟩
abbrev w_Fi_insert : List Cond := Cond.code y_Fi_insert prog_3_method_12_code 3 none :: x_tb
abbrev y_Fi_isFull : MethodName := ⟨"BreakingDisk$Files", "isFull", "()Z"⟩
abbrev w_Fi_isFull : List Cond := Cond.code y_Fi_isFull prog_3_method_2_code 1 (some .boolean) :: x_tb
abbrev y_Bd_listed : MethodName := ⟨"BreakingDisk", "listed", "(II)I"⟩
abbrev w_Bd_listed : List Cond := Cond.code y_Bd_listed prog_1_method_12_code 4 (some .int) :: x_tb
abbrev y_Bd_count : MethodName := ⟨"BreakingDisk", "count", "(I)I"⟩
abbrev w_Bd_count : List Cond := Cond.code y_Bd_count prog_1_method_13_code 2 (some .int) :: x_tb
abbrev y_Fi_countOfSort : MethodName := ⟨"BreakingDisk$Files", "countOfSort", "(I)I"⟩
abbrev w_Fi_countOfSort : List Cond := Cond.code y_Fi_countOfSort prog_3_method_5_code 4 (some .int) :: x_tb
abbrev y_La_path : MethodName := ⟨"BreakingDiskLaw", "path", "(LBreakingDisk;[J)I"⟩
abbrev w_La_path : List Cond := Cond.codeWith y_La_path method_3_code 3 (some .int) [(0, 8, 11, 13)] :: x_tb
abbrev y_Bd_path : MethodName := ⟨"BreakingDisk", "path", "()I"⟩
abbrev w_Bd_path : List Cond := Cond.code y_Bd_path prog_1_method_3_code 1 (some .int) :: x_tb
abbrev y_Tp_take : MethodName := ⟨"BreakingDisk$Tape", "take", "()LBreakingDisk$Bytes;"⟩
abbrev w_Tp_take : List Cond := Cond.code y_Tp_take prog_8_method_3_code 2 (some (.object "BreakingDisk$Bytes")) :: x_tb
abbrev y_Ar_copyOf : MethodName := ⟨"java/util/Arrays", "copyOf", "([BI)[B"⟩
abbrev w_Ar_copyOf : List Cond := Cond.code y_Ar_copyOf prog_22_method_121_code 3 (some (.array .byte)) :: x_tb
abbrev y_Ma_min : MethodName := ⟨"java/lang/Math", "min", "(II)I"⟩
abbrev w_Ma_min : List Cond := Cond.code y_Ma_min prog_17_method_69_code 2 (some .int) :: x_tb
abbrev y_La_write : MethodName := ⟨"BreakingDiskLaw", "write", "(LBreakingDisk;II)I"⟩
abbrev w_La_write : List Cond := Cond.codeWith y_La_write method_4_code 4 (some .int) [(0, 6, 9, 19), (0, 6, 12, 21)] :: x_tb
abbrev y_Bd_write : MethodName := ⟨"BreakingDisk", "write", "(II)V"⟩
abbrev w_Bd_write : List Cond := Cond.code y_Bd_write prog_1_method_4_code 4 none :: x_tb
abbrev y_Bd_refuseWrongName : MethodName := ⟨"BreakingDisk", "refuseWrongName", "(II)V"⟩
abbrev w_Bd_refuseWrongName : List Cond := Cond.code y_Bd_refuseWrongName prog_1_method_15_code 2 none :: x_tb
abbrev y_Bd_refuseFullJournal : MethodName := ⟨"BreakingDisk", "refuseFullJournal", "()V"⟩
abbrev w_Bd_refuseFullJournal : List Cond := Cond.code y_Bd_refuseFullJournal prog_1_method_16_code 1 none :: x_tb
abbrev y_Jo_isFull : MethodName := ⟨"BreakingDisk$Journal", "isFull", "()Z"⟩
abbrev w_Jo_isFull : List Cond := Cond.code y_Jo_isFull prog_4_method_2_code 1 (some .boolean) :: x_tb
abbrev y_Sf_init : MethodName := ⟨"BreakingDisk$StoredFile", "<init>", "(LBreakingDisk$Name;LBreakingDisk$Bytes;)V"⟩
abbrev w_Sf_init : List Cond := Cond.code y_Sf_init prog_7_method_1_code 3 none :: x_tb
abbrev y_Op_init : MethodName := ⟨"BreakingDisk$Operation", "<init>", "(LBreakingDisk$Name;LBreakingDisk$StoredFile;)V"⟩
abbrev w_Op_init : List Cond := Cond.code y_Op_init prog_6_method_1_code 3 none :: x_tb
abbrev y_Bd_perform : MethodName := ⟨"BreakingDisk", "perform", "(LBreakingDisk$Operation;)V"⟩
abbrev w_Bd_perform : List Cond := Cond.code y_Bd_perform prog_1_method_19_code 2 none :: x_tb
abbrev y_Fi_apply : MethodName := ⟨"BreakingDisk$Files", "apply", "(LBreakingDisk$Operation;)V"⟩
abbrev w_Fi_apply : List Cond := Cond.code y_Fi_apply prog_3_method_6_code 2 none :: x_tb
abbrev y_Fi_remove : MethodName := ⟨"BreakingDisk$Files", "remove", "(LBreakingDisk$Name;)V"⟩
abbrev w_Fi_remove : List Cond := Cond.code y_Fi_remove prog_3_method_11_code 4 none :: x_tb
abbrev y_Jo_append : MethodName := ⟨"BreakingDisk$Journal", "append", "(LBreakingDisk$Operation;)V"⟩
abbrev w_Jo_append : List Cond := Cond.code y_Jo_append prog_4_method_3_code 2 none :: x_tb
abbrev y_La_rename : MethodName := ⟨"BreakingDiskLaw", "rename", "(LBreakingDisk;IIII)I"⟩
abbrev w_La_rename : List Cond := Cond.codeWith y_La_rename method_5_code 6 (some .int) [(0, 9, 12, 19), (0, 9, 16, 13), (0, 9, 20, 21)] :: x_tb
abbrev y_Bd_rename : MethodName := ⟨"BreakingDisk", "rename", "(IIII)V"⟩
abbrev w_Bd_rename : List Cond := Cond.code y_Bd_rename prog_1_method_5_code 6 none :: x_tb
abbrev y_Bd_fileToChange : MethodName := ⟨"BreakingDisk", "fileToChange", "(II)LBreakingDisk$StoredFile;"⟩
abbrev w_Bd_fileToChange : List Cond := Cond.code y_Bd_fileToChange prog_1_method_17_code 4 (some (.object "BreakingDisk$StoredFile")) :: x_tb
abbrev y_La_delete : MethodName := ⟨"BreakingDiskLaw", "delete", "(LBreakingDisk;II)I"⟩
abbrev w_La_delete : List Cond := Cond.codeWith y_La_delete method_6_code 4 (some .int) [(0, 6, 9, 19), (0, 6, 12, 13), (0, 6, 15, 21)] :: x_tb
abbrev y_Bd_delete : MethodName := ⟨"BreakingDisk", "delete", "(II)V"⟩
abbrev w_Bd_delete : List Cond := Cond.code y_Bd_delete prog_1_method_6_code 4 none :: x_tb
abbrev y_La_breakOff : MethodName := ⟨"BreakingDiskLaw", "breakOff", "(LBreakingDisk;I[J)I"⟩
abbrev w_La_breakOff : List Cond := Cond.codeWith y_La_breakOff method_7_code 4 (some .int) [(0, 9, 12, 13)] :: x_tb
abbrev y_Bd_breakOff : MethodName := ⟨"BreakingDisk", "breakOff", "(I)I"⟩
abbrev w_Bd_breakOff : List Cond := Cond.code y_Bd_breakOff prog_1_method_8_code 3 (some .int) :: x_tb
abbrev y_Jo_replayFirst : MethodName := ⟨"BreakingDisk$Journal", "replayFirst", "(ILBreakingDisk$Files;)V"⟩
abbrev w_Jo_replayFirst : List Cond := Cond.code y_Jo_replayFirst prog_4_method_4_code 5 none :: x_tb
abbrev y_Mo_init : MethodName := ⟨"BreakingDiskModel", "<init>", "()V"⟩
abbrev w_Mo_init : List Cond := Cond.code y_Mo_init prog_10_method_1_code 1 none :: x_tb
abbrev y_Mo_thrown : MethodName := ⟨"BreakingDiskModel", "thrown", "()I"⟩
abbrev w_Mo_thrown : List Cond := Cond.code y_Mo_thrown prog_10_method_2_code 1 (some .int) :: x_tb
abbrev y_Mo_put : MethodName := ⟨"BreakingDiskModel", "put", "(JI)Z"⟩
abbrev w_Mo_put : List Cond := Cond.code y_Mo_put prog_10_method_3_code 5 (some .boolean) :: x_tb
abbrev y_Mo_path : MethodName := ⟨"BreakingDiskModel", "path", "()I"⟩
abbrev w_Mo_path : List Cond := Cond.code y_Mo_path prog_10_method_4_code 2 (some .int) :: x_tb
abbrev y_Mo_write : MethodName := ⟨"BreakingDiskModel", "write", "(II)V"⟩
abbrev w_Mo_write : List Cond := Cond.code y_Mo_write prog_10_method_15_code 6 none :: x_tb
abbrev y_Mo_findHere : MethodName := ⟨"BreakingDiskModel", "findHere", "(II)I"⟩
abbrev w_Mo_findHere : List Cond := Cond.code y_Mo_findHere prog_10_method_14_code 6 (some .int) :: x_tb
abbrev y_Mo_isName : MethodName := ⟨"BreakingDiskModel", "isName", "(II)Z"⟩
abbrev w_Mo_isName : List Cond := Cond.code y_Mo_isName prog_10_method_12_code 2 (some .boolean) :: x_tb
abbrev y_Mo_entry : MethodName := ⟨"BreakingDiskModel", "entry", "()I"⟩
abbrev w_Mo_entry : List Cond := Cond.code y_Mo_entry prog_10_method_13_code 1 (some .int) :: x_tb
abbrev y_Mo_name : MethodName := ⟨"BreakingDiskModel", "name", "(III)V"⟩
abbrev w_Mo_name : List Cond := Cond.code y_Mo_name prog_10_method_6_code 5 none :: x_tb
abbrev y_Mo_add : MethodName := ⟨"BreakingDiskModel", "add", "(IIII)V"⟩
abbrev w_Mo_add : List Cond := Cond.code y_Mo_add prog_10_method_11_code 5 none :: x_tb
abbrev y_Mo_act : MethodName := ⟨"BreakingDiskModel", "act", "(I)V"⟩
abbrev w_Mo_act : List Cond := Cond.code y_Mo_act prog_10_method_10_code 5 none :: x_tb
abbrev y_Mo_find : MethodName := ⟨"BreakingDiskModel", "find", "(III)I"⟩
abbrev w_Mo_find : List Cond := Cond.code y_Mo_find prog_10_method_8_code 5 (some .int) :: x_tb
abbrev y_Mo_hasPath : MethodName := ⟨"BreakingDiskModel", "hasPath", "(II)Z"⟩
abbrev w_Mo_hasPath : List Cond := Cond.code y_Mo_hasPath prog_10_method_7_code 5 (some .boolean) :: x_tb
abbrev y_Mo_copy : MethodName := ⟨"BreakingDiskModel", "copy", "(II)V"⟩
abbrev w_Mo_copy : List Cond := Cond.code y_Mo_copy prog_10_method_5_code 4 none :: x_tb
abbrev y_Mo_drop : MethodName := ⟨"BreakingDiskModel", "drop", "(I)V"⟩
abbrev w_Mo_drop : List Cond := Cond.code y_Mo_drop prog_10_method_9_code 2 none :: x_tb
abbrev y_Mo_rename : MethodName := ⟨"BreakingDiskModel", "rename", "(IIII)V"⟩
abbrev w_Mo_rename : List Cond := Cond.code y_Mo_rename prog_10_method_16_code 7 none :: x_tb
abbrev y_Mo_delete : MethodName := ⟨"BreakingDiskModel", "delete", "(II)V"⟩
abbrev w_Mo_delete : List Cond := Cond.code y_Mo_delete prog_10_method_17_code 4 none :: x_tb
abbrev y_Mo_sync : MethodName := ⟨"BreakingDiskModel", "sync", "()I"⟩
abbrev w_Mo_sync : List Cond := Cond.code y_Mo_sync prog_10_method_19_code 2 (some .int) :: x_tb
abbrev y_Mo_keep : MethodName := ⟨"BreakingDiskModel", "keep", "()V"⟩
abbrev w_Mo_keep : List Cond := Cond.code y_Mo_keep prog_10_method_18_code 2 none :: x_tb
abbrev y_Mo_breakOff : MethodName := ⟨"BreakingDiskModel", "breakOff", "(I)I"⟩
abbrev w_Mo_breakOff : List Cond := Cond.code y_Mo_breakOff prog_10_method_20_code 4 (some .int) :: x_tb
abbrev y_Mo_size : MethodName := ⟨"BreakingDiskModel", "size", "(II)I"⟩
abbrev w_Mo_size : List Cond := Cond.code y_Mo_size prog_10_method_21_code 4 (some .int) :: x_tb
abbrev y_Mo_at : MethodName := ⟨"BreakingDiskModel", "at", "(III)I"⟩
abbrev w_Mo_at : List Cond := Cond.code y_Mo_at prog_10_method_22_code 5 (some .int) :: x_tb
abbrev y_Mo_list : MethodName := ⟨"BreakingDiskModel", "list", "(I)I"⟩
abbrev w_Mo_list : List Cond := Cond.code y_Mo_list prog_10_method_25_code 5 (some .int) :: x_tb
abbrev y_Mo_isAhead : MethodName := ⟨"BreakingDiskModel", "isAhead", "(II)Z"⟩
abbrev w_Mo_isAhead : List Cond := Cond.code y_Mo_isAhead prog_10_method_24_code 4 (some .boolean) :: x_tb
abbrev y_Mo_rank : MethodName := ⟨"BreakingDiskModel", "rank", "(II)I"⟩
abbrev w_Mo_rank : List Cond := Cond.code y_Mo_rank prog_10_method_23_code 4 (some .int) :: x_tb
abbrev y_Mo_listed : MethodName := ⟨"BreakingDiskModel", "listed", "(II)I"⟩
abbrev w_Mo_listed : List Cond := Cond.code y_Mo_listed prog_10_method_26_code 3 (some .int) :: x_tb
abbrev y_Mo_count : MethodName := ⟨"BreakingDiskModel", "count", "(I)I"⟩
abbrev w_Mo_count : List Cond := Cond.code y_Mo_count prog_10_method_27_code 4 (some .int) :: x_tb
abbrev y_La_law : MethodName := ⟨"BreakingDiskLaw", "law", "([I)Z"⟩
def x_nf : List Cond := [Cond.methodLinkNest "BreakingDisk" 9 ⟨"BreakingDisk$Tape", "<init>", "()V"⟩ "BreakingDisk", Cond.fieldLinkNest "BreakingDisk" 53 "BreakingDisk$Tape" "length" "I" "BreakingDisk", Cond.methodLinkNest "BreakingDisk" 18 ⟨"BreakingDisk$Files", "<init>", "()V"⟩ "BreakingDisk", Cond.arrayOver (.object "BreakingDisk$StoredFile"), Cond.fieldLinkNest "BreakingDisk" 151 "BreakingDisk$Files" "length" "I" "BreakingDisk", Cond.methodLinkNest "BreakingDisk" 31 ⟨"BreakingDisk$Journal", "<init>", "()V"⟩ "BreakingDisk", Cond.arrayOver (.object "BreakingDisk$Operation"), Cond.fieldLinkNest "BreakingDisk" 119 "BreakingDisk$Journal" "length" "I" "BreakingDisk", Cond.fieldLinkNest "BreakingDisk$Files" 54 "BreakingDisk$Name" "sort" "I" "BreakingDisk", Cond.fieldLinkNest "BreakingDisk" 156 "BreakingDisk$Name" "time" "I" "BreakingDisk", Cond.fieldLinkNest "BreakingDisk" 161 "BreakingDisk$Name" "path" "LBreakingDisk$Bytes;" "BreakingDisk", Cond.castable "java/lang/IllegalArgumentException" "java/lang/IllegalArgumentException", Cond.declares ⟨"java/lang/RuntimeException", "<init>", "()V"⟩, Cond.declares ⟨"java/lang/RuntimeException", "<init>", "(Ljava/lang/String;)V"⟩, Cond.declares ⟨"java/lang/Exception", "<init>", "()V"⟩, Cond.declares ⟨"java/lang/Exception", "<init>", "(Ljava/lang/String;)V"⟩, Cond.declares ⟨"java/lang/Throwable", "<init>", "()V"⟩, Cond.declares ⟨"java/lang/Throwable", "<init>", "(Ljava/lang/String;)V"⟩, Cond.castable "[B" "java/lang/Cloneable", Cond.castable "java/lang/IndexOutOfBoundsException" "java/lang/IndexOutOfBoundsException", Cond.castable "java/lang/IllegalStateException" "java/lang/IllegalStateException", Cond.fieldLinkNest "BreakingDisk" 112 "BreakingDisk$StoredFile" "name" "LBreakingDisk$Name;" "BreakingDisk", Cond.fieldLinkNest "BreakingDisk$Files" 47 "BreakingDisk$StoredFile" "name" "LBreakingDisk$Name;" "BreakingDisk", Cond.fieldLinkNest "BreakingDisk" 116 "BreakingDisk$StoredFile" "content" "LBreakingDisk$Bytes;" "BreakingDisk", Cond.fieldLinkNest "BreakingDisk$Files" 33 "BreakingDisk$Operation" "goes" "LBreakingDisk$Name;" "BreakingDisk", Cond.fieldLinkNest "BreakingDisk$Files" 43 "BreakingDisk$Operation" "comes" "LBreakingDisk$StoredFile;" "BreakingDisk"]
theorem nf_30 : (Cond.methodLinkNest "BreakingDisk" 9 ⟨"BreakingDisk$Tape", "<init>", "()V"⟩ "BreakingDisk" : Cond) ∈ x_nf := List.mem_of_getElem? (i := 0) rfl
theorem nf_36 : (Cond.fieldLinkNest "BreakingDisk" 53 "BreakingDisk$Tape" "length" "I" "BreakingDisk" : Cond) ∈ x_nf := List.mem_of_getElem? (i := 1) rfl
theorem nf_45 : (Cond.methodLinkNest "BreakingDisk" 18 ⟨"BreakingDisk$Files", "<init>", "()V"⟩ "BreakingDisk" : Cond) ∈ x_nf := List.mem_of_getElem? (i := 2) rfl
theorem nf_50 : (Cond.arrayOver (.object "BreakingDisk$StoredFile") : Cond) ∈ x_nf := List.mem_of_getElem? (i := 3) rfl
theorem nf_53 : (Cond.fieldLinkNest "BreakingDisk" 151 "BreakingDisk$Files" "length" "I" "BreakingDisk" : Cond) ∈ x_nf := List.mem_of_getElem? (i := 4) rfl
theorem nf_61 : (Cond.methodLinkNest "BreakingDisk" 31 ⟨"BreakingDisk$Journal", "<init>", "()V"⟩ "BreakingDisk" : Cond) ∈ x_nf := List.mem_of_getElem? (i := 5) rfl
theorem nf_66 : (Cond.arrayOver (.object "BreakingDisk$Operation") : Cond) ∈ x_nf := List.mem_of_getElem? (i := 6) rfl
theorem nf_69 : (Cond.fieldLinkNest "BreakingDisk" 119 "BreakingDisk$Journal" "length" "I" "BreakingDisk" : Cond) ∈ x_nf := List.mem_of_getElem? (i := 7) rfl
theorem nf_142 : (Cond.fieldLinkNest "BreakingDisk$Files" 54 "BreakingDisk$Name" "sort" "I" "BreakingDisk" : Cond) ∈ x_nf := List.mem_of_getElem? (i := 8) rfl
theorem nf_144 : (Cond.fieldLinkNest "BreakingDisk" 156 "BreakingDisk$Name" "time" "I" "BreakingDisk" : Cond) ∈ x_nf := List.mem_of_getElem? (i := 9) rfl
theorem nf_146 : (Cond.fieldLinkNest "BreakingDisk" 161 "BreakingDisk$Name" "path" "LBreakingDisk$Bytes;" "BreakingDisk" : Cond) ∈ x_nf := List.mem_of_getElem? (i := 10) rfl
theorem nf_234 : (Cond.castable "java/lang/IllegalArgumentException" "java/lang/IllegalArgumentException" : Cond) ∈ x_nf := List.mem_of_getElem? (i := 11) rfl
theorem nf_235 : (Cond.declares ⟨"java/lang/RuntimeException", "<init>", "()V"⟩ : Cond) ∈ x_nf := List.mem_of_getElem? (i := 12) rfl
theorem nf_236 : (Cond.declares ⟨"java/lang/RuntimeException", "<init>", "(Ljava/lang/String;)V"⟩ : Cond) ∈ x_nf := List.mem_of_getElem? (i := 13) rfl
theorem nf_237 : (Cond.declares ⟨"java/lang/Exception", "<init>", "()V"⟩ : Cond) ∈ x_nf := List.mem_of_getElem? (i := 14) rfl
theorem nf_238 : (Cond.declares ⟨"java/lang/Exception", "<init>", "(Ljava/lang/String;)V"⟩ : Cond) ∈ x_nf := List.mem_of_getElem? (i := 15) rfl
theorem nf_239 : (Cond.declares ⟨"java/lang/Throwable", "<init>", "()V"⟩ : Cond) ∈ x_nf := List.mem_of_getElem? (i := 16) rfl
theorem nf_240 : (Cond.declares ⟨"java/lang/Throwable", "<init>", "(Ljava/lang/String;)V"⟩ : Cond) ∈ x_nf := List.mem_of_getElem? (i := 17) rfl
theorem nf_312 : (Cond.castable "[B" "java/lang/Cloneable" : Cond) ∈ x_nf := List.mem_of_getElem? (i := 18) rfl
theorem nf_335 : (Cond.castable "java/lang/IndexOutOfBoundsException" "java/lang/IndexOutOfBoundsException" : Cond) ∈ x_nf := List.mem_of_getElem? (i := 19) rfl
theorem nf_352 : (Cond.castable "java/lang/IllegalStateException" "java/lang/IllegalStateException" : Cond) ∈ x_nf := List.mem_of_getElem? (i := 20) rfl
theorem nf_384 : (Cond.fieldLinkNest "BreakingDisk" 112 "BreakingDisk$StoredFile" "name" "LBreakingDisk$Name;" "BreakingDisk" : Cond) ∈ x_nf := List.mem_of_getElem? (i := 21) rfl
theorem nf_385 : (Cond.fieldLinkNest "BreakingDisk$Files" 47 "BreakingDisk$StoredFile" "name" "LBreakingDisk$Name;" "BreakingDisk" : Cond) ∈ x_nf := List.mem_of_getElem? (i := 22) rfl
theorem nf_387 : (Cond.fieldLinkNest "BreakingDisk" 116 "BreakingDisk$StoredFile" "content" "LBreakingDisk$Bytes;" "BreakingDisk" : Cond) ∈ x_nf := List.mem_of_getElem? (i := 23) rfl
theorem nf_398 : (Cond.fieldLinkNest "BreakingDisk$Files" 33 "BreakingDisk$Operation" "goes" "LBreakingDisk$Name;" "BreakingDisk" : Cond) ∈ x_nf := List.mem_of_getElem? (i := 24) rfl
theorem nf_400 : (Cond.fieldLinkNest "BreakingDisk$Files" 43 "BreakingDisk$Operation" "comes" "LBreakingDisk$StoredFile;" "BreakingDisk" : Cond) ∈ x_nf := List.mem_of_getElem? (i := 25) rfl
theorem x_nf_warm : ∀ w ∈ x_nf, ∀ s U : State, s.WarmedH U.vm → va_Nw w s → va_Nw w U := List.forall_mem_cons.mpr ⟨fun _ _ h q => va_Nw.warmM h q, List.forall_mem_cons.mpr ⟨fun _ _ h q => va_Nw.warmF h q, List.forall_mem_cons.mpr ⟨fun _ _ h q => va_Nw.warmM h q, List.forall_mem_cons.mpr ⟨fun _ _ h q => va_AO.moved h.alike q, List.forall_mem_cons.mpr ⟨fun _ _ h q => va_Nw.warmF h q, List.forall_mem_cons.mpr ⟨fun _ _ h q => va_Nw.warmM h q, List.forall_mem_cons.mpr ⟨fun _ _ h q => va_AO.moved h.alike q, List.forall_mem_cons.mpr ⟨fun _ _ h q => va_Nw.warmF h q, List.forall_mem_cons.mpr ⟨fun _ _ h q => va_Nw.warmF h q, List.forall_mem_cons.mpr ⟨fun _ _ h q => va_Nw.warmF h q, List.forall_mem_cons.mpr ⟨fun _ _ h q => va_Nw.warmF h q, List.forall_mem_cons.mpr ⟨fun _ _ h q => va_Nw.warmC h q, List.forall_mem_cons.mpr ⟨fun _ _ h q => va_Nw.warmD h q, List.forall_mem_cons.mpr ⟨fun _ _ h q => va_Nw.warmD h q, List.forall_mem_cons.mpr ⟨fun _ _ h q => va_Nw.warmD h q, List.forall_mem_cons.mpr ⟨fun _ _ h q => va_Nw.warmD h q, List.forall_mem_cons.mpr ⟨fun _ _ h q => va_Nw.warmD h q, List.forall_mem_cons.mpr ⟨fun _ _ h q => va_Nw.warmD h q, List.forall_mem_cons.mpr ⟨fun _ _ h q => va_Nw.warmC h q, List.forall_mem_cons.mpr ⟨fun _ _ h q => va_Nw.warmC h q, List.forall_mem_cons.mpr ⟨fun _ _ h q => va_Nw.warmC h q, List.forall_mem_cons.mpr ⟨fun _ _ h q => va_Nw.warmF h q, List.forall_mem_cons.mpr ⟨fun _ _ h q => va_Nw.warmF h q, List.forall_mem_cons.mpr ⟨fun _ _ h q => va_Nw.warmF h q, List.forall_mem_cons.mpr ⟨fun _ _ h q => va_Nw.warmF h q, List.forall_mem_cons.mpr ⟨fun _ _ h q => va_Nw.warmF h q, fun _ h => absurd h List.not_mem_nil⟩⟩⟩⟩⟩⟩⟩⟩⟩⟩⟩⟩⟩⟩⟩⟩⟩⟩⟩⟩⟩⟩⟩⟩⟩⟩
theorem x_nf_tbl : ∀ w ∈ x_nf, w ∈ lw_tbl := List.forall_mem_cons.mpr ⟨ml_30, List.forall_mem_cons.mpr ⟨ml_36, List.forall_mem_cons.mpr ⟨ml_45, List.forall_mem_cons.mpr ⟨ml_50, List.forall_mem_cons.mpr ⟨ml_53, List.forall_mem_cons.mpr ⟨ml_61, List.forall_mem_cons.mpr ⟨ml_66, List.forall_mem_cons.mpr ⟨ml_69, List.forall_mem_cons.mpr ⟨ml_142, List.forall_mem_cons.mpr ⟨ml_144, List.forall_mem_cons.mpr ⟨ml_146, List.forall_mem_cons.mpr ⟨ml_234, List.forall_mem_cons.mpr ⟨ml_235, List.forall_mem_cons.mpr ⟨ml_236, List.forall_mem_cons.mpr ⟨ml_237, List.forall_mem_cons.mpr ⟨ml_238, List.forall_mem_cons.mpr ⟨ml_239, List.forall_mem_cons.mpr ⟨ml_240, List.forall_mem_cons.mpr ⟨ml_312, List.forall_mem_cons.mpr ⟨ml_335, List.forall_mem_cons.mpr ⟨ml_352, List.forall_mem_cons.mpr ⟨ml_384, List.forall_mem_cons.mpr ⟨ml_385, List.forall_mem_cons.mpr ⟨ml_387, List.forall_mem_cons.mpr ⟨ml_398, List.forall_mem_cons.mpr ⟨ml_400, fun _ h => absurd h List.not_mem_nil⟩⟩⟩⟩⟩⟩⟩⟩⟩⟩⟩⟩⟩⟩⟩⟩⟩⟩⟩⟩⟩⟩⟩⟩⟩⟩
def x_str : List (Nat × String) := [(58, "the tape is too long for a PATH"), (169, "no such SORT or TIME"), (88, "there are 60 files"), (173, "200 operations were done since the latest SYNC"), (175, "there is no such file"), (127, "n is below 0")]
theorem x_str_tbl : ∀ t ∈ x_str, Cond.stringRef "BreakingDisk" t.1 t.2 ∈ lw_tbl := List.forall_mem_cons.mpr ⟨ml_273, List.forall_mem_cons.mpr ⟨ml_342, List.forall_mem_cons.mpr ⟨ml_359, List.forall_mem_cons.mpr ⟨ml_374, List.forall_mem_cons.mpr ⟨ml_433, List.forall_mem_cons.mpr ⟨ml_448, fun _ h => absurd h List.not_mem_nil⟩⟩⟩⟩⟩⟩
