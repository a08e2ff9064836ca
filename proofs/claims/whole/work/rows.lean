section
-- ===== PART A: goes FIRST, ahead of the names: the tables' words, and 'selects' of the private methods out of them =====
/-- a private method of a class that the tables say can be made, by its rows of tables_1 -/
def lw_okq (q : MethodName × Nat) : Prop := (q.1.cls ≠ "java/lang/invoke/MethodHandle" ∧ q.1.cls ≠ "java/lang/invoke/VarHandle") ∧ Cond.instantiable q.1.cls q.2 ∈ tables_1 ∧ Cond.privateMethod q.1 ∈ tables_1 ∧ Cond.instanceMethod q.1 ∈ tables_1
theorem lw_p0 : lw_okq (⟨"BreakingDisk", "nameOf", "(II)LBreakingDisk$Name;"⟩, 7) := ⟨⟨by decide +kernel, by decide +kernel⟩, List.mem_of_getElem? (i := 21) (by decide +kernel), List.mem_of_getElem? (i := 132) (by decide +kernel), List.mem_of_getElem? (i := 133) (by decide +kernel)⟩
theorem lw_p1 : lw_okq (⟨"BreakingDisk$Files", "indexOf", "(LBreakingDisk$Name;)I"⟩, 2) := ⟨⟨by decide +kernel, by decide +kernel⟩, List.mem_of_getElem? (i := 44) (by decide +kernel), List.mem_of_getElem? (i := 159) (by decide +kernel), List.mem_of_getElem? (i := 160) (by decide +kernel)⟩
theorem lw_p2 : lw_okq (⟨"java/lang/Throwable", "fillInStackTrace", "(I)Ljava/lang/Throwable;"⟩, 6) := ⟨⟨by decide +kernel, by decide +kernel⟩, List.mem_of_getElem? (i := 260) (by decide +kernel), List.mem_of_getElem? (i := 258) (by decide +kernel), List.mem_of_getElem? (i := 259) (by decide +kernel)⟩
theorem lw_p3 : lw_okq (⟨"BreakingDisk", "refuseFullJournal", "()V"⟩, 7) := ⟨⟨by decide +kernel, by decide +kernel⟩, List.mem_of_getElem? (i := 21) (by decide +kernel), List.mem_of_getElem? (i := 359) (by decide +kernel), List.mem_of_getElem? (i := 360) (by decide +kernel)⟩
theorem lw_p4 : lw_okq (⟨"BreakingDisk", "perform", "(LBreakingDisk$Operation;)V"⟩, 7) := ⟨⟨by decide +kernel, by decide +kernel⟩, List.mem_of_getElem? (i := 21) (by decide +kernel), List.mem_of_getElem? (i := 399) (by decide +kernel), List.mem_of_getElem? (i := 400) (by decide +kernel)⟩
theorem lw_p5 : lw_okq (⟨"BreakingDisk$Files", "remove", "(LBreakingDisk$Name;)V"⟩, 2) := ⟨⟨by decide +kernel, by decide +kernel⟩, List.mem_of_getElem? (i := 44) (by decide +kernel), List.mem_of_getElem? (i := 407) (by decide +kernel), List.mem_of_getElem? (i := 408) (by decide +kernel)⟩
theorem lw_p6 : lw_okq (⟨"BreakingDisk$Files", "insert", "(LBreakingDisk$StoredFile;)V"⟩, 2) := ⟨⟨by decide +kernel, by decide +kernel⟩, List.mem_of_getElem? (i := 44) (by decide +kernel), List.mem_of_getElem? (i := 411) (by decide +kernel), List.mem_of_getElem? (i := 412) (by decide +kernel)⟩
theorem lw_p7 : lw_okq (⟨"BreakingDisk", "fileToChange", "(II)LBreakingDisk$StoredFile;"⟩, 7) := ⟨⟨by decide +kernel, by decide +kernel⟩, List.mem_of_getElem? (i := 21) (by decide +kernel), List.mem_of_getElem? (i := 427) (by decide +kernel), List.mem_of_getElem? (i := 428) (by decide +kernel)⟩
theorem lw_p8 : lw_okq (⟨"BreakingDiskModel", "findHere", "(II)I"⟩, 23) := ⟨⟨by decide +kernel, by decide +kernel⟩, List.mem_of_getElem? (i := 454) (by decide +kernel), List.mem_of_getElem? (i := 548) (by decide +kernel), List.mem_of_getElem? (i := 549) (by decide +kernel)⟩
theorem lw_p9 : lw_okq (⟨"BreakingDiskModel", "entry", "()I"⟩, 23) := ⟨⟨by decide +kernel, by decide +kernel⟩, List.mem_of_getElem? (i := 454) (by decide +kernel), List.mem_of_getElem? (i := 555) (by decide +kernel), List.mem_of_getElem? (i := 556) (by decide +kernel)⟩
theorem lw_p10 : lw_okq (⟨"BreakingDiskModel", "name", "(III)V"⟩, 23) := ⟨⟨by decide +kernel, by decide +kernel⟩, List.mem_of_getElem? (i := 454) (by decide +kernel), List.mem_of_getElem? (i := 559) (by decide +kernel), List.mem_of_getElem? (i := 560) (by decide +kernel)⟩
theorem lw_p11 : lw_okq (⟨"BreakingDiskModel", "add", "(IIII)V"⟩, 23) := ⟨⟨by decide +kernel, by decide +kernel⟩, List.mem_of_getElem? (i := 454) (by decide +kernel), List.mem_of_getElem? (i := 563) (by decide +kernel), List.mem_of_getElem? (i := 564) (by decide +kernel)⟩
theorem lw_p12 : lw_okq (⟨"BreakingDiskModel", "act", "(I)V"⟩, 23) := ⟨⟨by decide +kernel, by decide +kernel⟩, List.mem_of_getElem? (i := 454) (by decide +kernel), List.mem_of_getElem? (i := 567) (by decide +kernel), List.mem_of_getElem? (i := 568) (by decide +kernel)⟩
theorem lw_p13 : lw_okq (⟨"BreakingDiskModel", "find", "(III)I"⟩, 23) := ⟨⟨by decide +kernel, by decide +kernel⟩, List.mem_of_getElem? (i := 454) (by decide +kernel), List.mem_of_getElem? (i := 571) (by decide +kernel), List.mem_of_getElem? (i := 572) (by decide +kernel)⟩
theorem lw_p14 : lw_okq (⟨"BreakingDiskModel", "hasPath", "(II)Z"⟩, 23) := ⟨⟨by decide +kernel, by decide +kernel⟩, List.mem_of_getElem? (i := 454) (by decide +kernel), List.mem_of_getElem? (i := 575) (by decide +kernel), List.mem_of_getElem? (i := 576) (by decide +kernel)⟩
theorem lw_p15 : lw_okq (⟨"BreakingDiskModel", "copy", "(II)V"⟩, 23) := ⟨⟨by decide +kernel, by decide +kernel⟩, List.mem_of_getElem? (i := 454) (by decide +kernel), List.mem_of_getElem? (i := 579) (by decide +kernel), List.mem_of_getElem? (i := 580) (by decide +kernel)⟩
def lw_privs_1 : List (MethodName × Nat) := [(⟨"BreakingDisk", "nameOf", "(II)LBreakingDisk$Name;"⟩, 7), (⟨"BreakingDisk$Files", "indexOf", "(LBreakingDisk$Name;)I"⟩, 2), (⟨"java/lang/Throwable", "fillInStackTrace", "(I)Ljava/lang/Throwable;"⟩, 6), (⟨"BreakingDisk", "refuseFullJournal", "()V"⟩, 7), (⟨"BreakingDisk", "perform", "(LBreakingDisk$Operation;)V"⟩, 7), (⟨"BreakingDisk$Files", "remove", "(LBreakingDisk$Name;)V"⟩, 2), (⟨"BreakingDisk$Files", "insert", "(LBreakingDisk$StoredFile;)V"⟩, 2), (⟨"BreakingDisk", "fileToChange", "(II)LBreakingDisk$StoredFile;"⟩, 7), (⟨"BreakingDiskModel", "findHere", "(II)I"⟩, 23), (⟨"BreakingDiskModel", "entry", "()I"⟩, 23), (⟨"BreakingDiskModel", "name", "(III)V"⟩, 23), (⟨"BreakingDiskModel", "add", "(IIII)V"⟩, 23), (⟨"BreakingDiskModel", "act", "(I)V"⟩, 23), (⟨"BreakingDiskModel", "find", "(III)I"⟩, 23), (⟨"BreakingDiskModel", "hasPath", "(II)Z"⟩, 23), (⟨"BreakingDiskModel", "copy", "(II)V"⟩, 23)]
theorem lw_r1 : ∀ q ∈ lw_privs_1, lw_okq q := List.forall_mem_cons.mpr ⟨lw_p0, List.forall_mem_cons.mpr ⟨lw_p1, List.forall_mem_cons.mpr ⟨lw_p2, List.forall_mem_cons.mpr ⟨lw_p3, List.forall_mem_cons.mpr ⟨lw_p4, List.forall_mem_cons.mpr ⟨lw_p5, List.forall_mem_cons.mpr ⟨lw_p6, List.forall_mem_cons.mpr ⟨lw_p7, List.forall_mem_cons.mpr ⟨lw_p8, List.forall_mem_cons.mpr ⟨lw_p9, List.forall_mem_cons.mpr ⟨lw_p10, List.forall_mem_cons.mpr ⟨lw_p11, List.forall_mem_cons.mpr ⟨lw_p12, List.forall_mem_cons.mpr ⟨lw_p13, List.forall_mem_cons.mpr ⟨lw_p14, List.forall_mem_cons.mpr ⟨lw_p15, fun _ h => absurd h List.not_mem_nil⟩⟩⟩⟩⟩⟩⟩⟩⟩⟩⟩⟩⟩⟩⟩⟩
theorem lw_p16 : lw_okq (⟨"BreakingDiskModel", "drop", "(I)V"⟩, 23) := ⟨⟨by decide +kernel, by decide +kernel⟩, List.mem_of_getElem? (i := 454) (by decide +kernel), List.mem_of_getElem? (i := 583) (by decide +kernel), List.mem_of_getElem? (i := 584) (by decide +kernel)⟩
theorem lw_p17 : lw_okq (⟨"BreakingDiskModel", "keep", "()V"⟩, 23) := ⟨⟨by decide +kernel, by decide +kernel⟩, List.mem_of_getElem? (i := 454) (by decide +kernel), List.mem_of_getElem? (i := 599) (by decide +kernel), List.mem_of_getElem? (i := 600) (by decide +kernel)⟩
theorem lw_p18 : lw_okq (⟨"BreakingDiskModel", "isAhead", "(II)Z"⟩, 23) := ⟨⟨by decide +kernel, by decide +kernel⟩, List.mem_of_getElem? (i := 454) (by decide +kernel), List.mem_of_getElem? (i := 619) (by decide +kernel), List.mem_of_getElem? (i := 620) (by decide +kernel)⟩
theorem lw_p19 : lw_okq (⟨"BreakingDiskModel", "rank", "(II)I"⟩, 23) := ⟨⟨by decide +kernel, by decide +kernel⟩, List.mem_of_getElem? (i := 454) (by decide +kernel), List.mem_of_getElem? (i := 623) (by decide +kernel), List.mem_of_getElem? (i := 624) (by decide +kernel)⟩
def lw_privs_2 : List (MethodName × Nat) := [(⟨"BreakingDiskModel", "drop", "(I)V"⟩, 23), (⟨"BreakingDiskModel", "keep", "()V"⟩, 23), (⟨"BreakingDiskModel", "isAhead", "(II)Z"⟩, 23), (⟨"BreakingDiskModel", "rank", "(II)I"⟩, 23)]
theorem lw_r2 : ∀ q ∈ lw_privs_2, lw_okq q := List.forall_mem_cons.mpr ⟨lw_p16, List.forall_mem_cons.mpr ⟨lw_p17, List.forall_mem_cons.mpr ⟨lw_p18, List.forall_mem_cons.mpr ⟨lw_p19, fun _ h => absurd h List.not_mem_nil⟩⟩⟩⟩
def lw_privs : List (MethodName × Nat) := lw_privs_1 ++ (lw_privs_2)
def lw_tbl : List Cond := k2_sels lw_privs ++ tables_1
theorem lw_privs_ok : ∀ q ∈ lw_privs, lw_okq q := by
  show ∀ q ∈ lw_privs_1 ++ (lw_privs_2), lw_okq q
  exact List.forall_mem_append.mpr ⟨lw_r1, lw_r2⟩
/-- the words that every contract takes along -/
def x_tb : List Cond := lw_tbl.filter goodWord
theorem x_mem (i : Nat) {w : Cond} (h : lw_tbl[i]? = some w) (g : goodWord w = true) : w ∈ x_tb := List.mem_filter.mpr ⟨List.mem_of_getElem? h, g⟩
theorem x_good {a b : Cond} (hb : b ∈ x_tb) : GoodIn (a :: x_tb) (b :: x_tb) := fun w hw => by
  have hm : w ∈ x_tb := (List.mem_cons.mp hw).elim (fun e => e ▸ hb) id
  exact ⟨List.mem_cons_of_mem _ hm, good_of_word (List.mem_filter.mp hm).2⟩
theorem x_goodT {b : Cond} (hb : b ∈ x_tb) : GoodIn x_tb (b :: x_tb) := fun w hw => by
  have hm : w ∈ x_tb := (List.mem_cons.mp hw).elim (fun e => e ▸ hb) id
  exact ⟨hm, good_of_word (List.mem_filter.mp hm).2⟩
set_option maxRecDepth 20000 in
theorem mw_0 : (Cond.initialized "BreakingDiskLaw" : Cond) ∈ x_tb := x_mem 20 rfl rfl
set_option maxRecDepth 20000 in
theorem mw_1 : (Cond.initialized "BreakingDisk" : Cond) ∈ x_tb := x_mem 21 rfl rfl
set_option maxRecDepth 20000 in
theorem mw_2 : (Cond.initialized "BreakingDisk$Tape" : Cond) ∈ x_tb := x_mem 22 rfl rfl
set_option maxRecDepth 20000 in
theorem mw_3 : (Cond.initialized "BreakingDisk$Files" : Cond) ∈ x_tb := x_mem 23 rfl rfl
set_option maxRecDepth 20000 in
theorem mw_4 : (Cond.initialized "BreakingDisk$Journal" : Cond) ∈ x_tb := x_mem 24 rfl rfl
set_option maxRecDepth 20000 in
theorem mw_5 : (Cond.initialized "BreakingDisk$Bytes" : Cond) ∈ x_tb := x_mem 25 rfl rfl
set_option maxRecDepth 20000 in
theorem mw_6 : (Cond.initialized "BreakingDiskModel" : Cond) ∈ x_tb := x_mem 26 rfl rfl
set_option maxRecDepth 20000 in
theorem mw_7 : (Cond.initialized "java/lang/Throwable" : Cond) ∈ x_tb := x_mem 27 rfl rfl
set_option maxRecDepth 20000 in
theorem mw_8 : (Cond.initialized "java/lang/Exception" : Cond) ∈ x_tb := x_mem 28 rfl rfl
set_option maxRecDepth 20000 in
theorem mw_9 : (Cond.initialized "java/lang/RuntimeException" : Cond) ∈ x_tb := x_mem 29 rfl rfl
set_option maxRecDepth 20000 in
theorem mw_10 : (Cond.initialized "java/lang/IllegalArgumentException" : Cond) ∈ x_tb := x_mem 30 rfl rfl
set_option maxRecDepth 20000 in
theorem mw_11 : (Cond.initialized "java/util/Arrays" : Cond) ∈ x_tb := x_mem 31 rfl rfl
set_option maxRecDepth 20000 in
theorem mw_12 : (Cond.initialized "java/lang/Math" : Cond) ∈ x_tb := x_mem 32 rfl rfl
set_option maxRecDepth 20000 in
theorem mw_13 : (Cond.initialized "java/lang/System" : Cond) ∈ x_tb := x_mem 33 rfl rfl
set_option maxRecDepth 20000 in
theorem mw_14 : (Cond.initialized "java/lang/IndexOutOfBoundsException" : Cond) ∈ x_tb := x_mem 34 rfl rfl
set_option maxRecDepth 20000 in
theorem mw_15 : (Cond.initialized "BreakingDisk$Name" : Cond) ∈ x_tb := x_mem 35 rfl rfl
set_option maxRecDepth 20000 in
theorem mw_16 : (Cond.initialized "java/lang/Integer" : Cond) ∈ x_tb := x_mem 36 rfl rfl
set_option maxRecDepth 20000 in
theorem mw_17 : (Cond.initialized "java/lang/IllegalStateException" : Cond) ∈ x_tb := x_mem 37 rfl rfl
set_option maxRecDepth 20000 in
theorem mw_18 : (Cond.initialized "BreakingDisk$Operation" : Cond) ∈ x_tb := x_mem 38 rfl rfl
set_option maxRecDepth 20000 in
theorem mw_19 : (Cond.initialized "BreakingDisk$StoredFile" : Cond) ∈ x_tb := x_mem 39 rfl rfl
set_option maxRecDepth 20000 in
theorem mw_20 : (Cond.classLink "BreakingDiskLaw" 8 "BreakingDisk" : Cond) ∈ x_tb := x_mem 40 rfl rfl
set_option maxRecDepth 20000 in
theorem mw_21 : (Cond.instantiable "BreakingDisk" 7 : Cond) ∈ x_tb := x_mem 41 rfl rfl
set_option maxRecDepth 20000 in
theorem mw_22 : (Cond.methodLink "BreakingDiskLaw" 34 ⟨"BreakingDisk", "<init>", "()V"⟩ : Cond) ∈ x_tb := x_mem 42 rfl rfl
set_option maxRecDepth 20000 in
theorem mw_23 : (Cond.instanceMethod ⟨"BreakingDisk", "<init>", "()V"⟩ : Cond) ∈ x_tb := x_mem 43 rfl rfl
set_option maxRecDepth 20000 in
theorem mw_24 : (Cond.code ⟨"BreakingDisk", "<init>", "()V"⟩ prog_1_method_1_code 1 none : Cond) ∈ x_tb := x_mem 44 rfl rfl
set_option maxRecDepth 20000 in
theorem mw_25 : (Cond.methodLink "BreakingDisk" 1 ⟨"java/lang/Object", "<init>", "()V"⟩ : Cond) ∈ x_tb := x_mem 45 rfl rfl
set_option maxRecDepth 20000 in
theorem mw_26 : (Cond.instanceMethod ⟨"java/lang/Object", "<init>", "()V"⟩ : Cond) ∈ x_tb := x_mem 46 rfl rfl
set_option maxRecDepth 20000 in
theorem mw_27 : (Cond.code ⟨"java/lang/Object", "<init>", "()V"⟩ object_method_1_code 1 none : Cond) ∈ x_tb := x_mem 47 rfl rfl
set_option maxRecDepth 20000 in
theorem mw_28 : (Cond.classLink "BreakingDisk" 7 "BreakingDisk$Tape" : Cond) ∈ x_tb := x_mem 48 rfl rfl
set_option maxRecDepth 20000 in
theorem mw_29 : (Cond.instantiable "BreakingDisk$Tape" 2 : Cond) ∈ x_tb := x_mem 49 rfl rfl
set_option maxRecDepth 20000 in
theorem ml_30 : (Cond.methodLinkNest "BreakingDisk" 9 ⟨"BreakingDisk$Tape", "<init>", "()V"⟩ "BreakingDisk" : Cond) ∈ lw_tbl := List.mem_of_getElem? (i := 50) rfl
set_option maxRecDepth 20000 in
theorem mw_31 : (Cond.instanceMethod ⟨"BreakingDisk$Tape", "<init>", "()V"⟩ : Cond) ∈ x_tb := x_mem 51 rfl rfl
set_option maxRecDepth 20000 in
theorem mw_32 : (Cond.code ⟨"BreakingDisk$Tape", "<init>", "()V"⟩ prog_8_method_1_code 1 none : Cond) ∈ x_tb := x_mem 52 rfl rfl
set_option maxRecDepth 20000 in
theorem mw_33 : (Cond.methodLink "BreakingDisk$Tape" 3 ⟨"java/lang/Object", "<init>", "()V"⟩ : Cond) ∈ x_tb := x_mem 53 rfl rfl
set_option maxRecDepth 20000 in
theorem mw_34 : (Cond.fieldLink "BreakingDisk$Tape" 9 "BreakingDisk$Tape" "row" "[B" : Cond) ∈ x_tb := x_mem 54 rfl rfl
set_option maxRecDepth 20000 in
theorem mw_35 : (Cond.fieldLink "BreakingDisk$Tape" 15 "BreakingDisk$Tape" "length" "I" : Cond) ∈ x_tb := x_mem 55 rfl rfl
set_option maxRecDepth 20000 in
theorem ml_36 : (Cond.fieldLinkNest "BreakingDisk" 53 "BreakingDisk$Tape" "length" "I" "BreakingDisk" : Cond) ∈ lw_tbl := List.mem_of_getElem? (i := 56) rfl
set_option maxRecDepth 20000 in
theorem mw_37 : (Cond.laysFinal "BreakingDisk$Tape" "BreakingDisk$Tape" "row" "[B" : Cond) ∈ x_tb := x_mem 57 rfl rfl
set_option maxRecDepth 20000 in
theorem mw_38 : (Cond.soleField "BreakingDisk$Tape" "row" : Cond) ∈ x_tb := x_mem 58 rfl rfl
set_option maxRecDepth 20000 in
theorem mw_39 : (Cond.lays "BreakingDisk$Tape" "BreakingDisk$Tape" "length" "I" : Cond) ∈ x_tb := x_mem 59 rfl rfl
set_option maxRecDepth 20000 in
theorem mw_40 : (Cond.soleField "BreakingDisk$Tape" "length" : Cond) ∈ x_tb := x_mem 60 rfl rfl
set_option maxRecDepth 20000 in
theorem mw_41 : (Cond.superclass "BreakingDisk$Tape" "java/lang/Object" : Cond) ∈ x_tb := x_mem 61 rfl rfl
set_option maxRecDepth 20000 in
theorem mw_42 : (Cond.arrayClass .byte : Cond) ∈ x_tb := x_mem 62 rfl rfl
set_option maxRecDepth 20000 in
theorem mw_43 : (Cond.classLink "BreakingDisk" 16 "BreakingDisk$Files" : Cond) ∈ x_tb := x_mem 63 rfl rfl
set_option maxRecDepth 20000 in
theorem mw_44 : (Cond.instantiable "BreakingDisk$Files" 2 : Cond) ∈ x_tb := x_mem 64 rfl rfl
set_option maxRecDepth 20000 in
theorem ml_45 : (Cond.methodLinkNest "BreakingDisk" 18 ⟨"BreakingDisk$Files", "<init>", "()V"⟩ "BreakingDisk" : Cond) ∈ lw_tbl := List.mem_of_getElem? (i := 65) rfl
set_option maxRecDepth 20000 in
theorem mw_46 : (Cond.instanceMethod ⟨"BreakingDisk$Files", "<init>", "()V"⟩ : Cond) ∈ x_tb := x_mem 66 rfl rfl
set_option maxRecDepth 20000 in
theorem mw_47 : (Cond.code ⟨"BreakingDisk$Files", "<init>", "()V"⟩ prog_3_method_1_code 1 none : Cond) ∈ x_tb := x_mem 67 rfl rfl
set_option maxRecDepth 20000 in
theorem mw_48 : (Cond.methodLink "BreakingDisk$Files" 3 ⟨"java/lang/Object", "<init>", "()V"⟩ : Cond) ∈ x_tb := x_mem 68 rfl rfl
set_option maxRecDepth 20000 in
theorem mw_49 : (Cond.classLink "BreakingDisk$Files" 9 "BreakingDisk$StoredFile" : Cond) ∈ x_tb := x_mem 69 rfl rfl
set_option maxRecDepth 20000 in
theorem ml_50 : (Cond.arrayOver (.object "BreakingDisk$StoredFile") : Cond) ∈ lw_tbl := List.mem_of_getElem? (i := 70) rfl
set_option maxRecDepth 20000 in
theorem mw_51 : (Cond.fieldLink "BreakingDisk$Files" 11 "BreakingDisk$Files" "row" "[LBreakingDisk$StoredFile;" : Cond) ∈ x_tb := x_mem 71 rfl rfl
set_option maxRecDepth 20000 in
theorem mw_52 : (Cond.fieldLink "BreakingDisk$Files" 17 "BreakingDisk$Files" "length" "I" : Cond) ∈ x_tb := x_mem 72 rfl rfl
set_option maxRecDepth 20000 in
theorem ml_53 : (Cond.fieldLinkNest "BreakingDisk" 151 "BreakingDisk$Files" "length" "I" "BreakingDisk" : Cond) ∈ lw_tbl := List.mem_of_getElem? (i := 73) rfl
set_option maxRecDepth 20000 in
theorem mw_54 : (Cond.laysFinal "BreakingDisk$Files" "BreakingDisk$Files" "row" "[LBreakingDisk$StoredFile;" : Cond) ∈ x_tb := x_mem 74 rfl rfl
set_option maxRecDepth 20000 in
theorem mw_55 : (Cond.soleField "BreakingDisk$Files" "row" : Cond) ∈ x_tb := x_mem 75 rfl rfl
set_option maxRecDepth 20000 in
theorem mw_56 : (Cond.lays "BreakingDisk$Files" "BreakingDisk$Files" "length" "I" : Cond) ∈ x_tb := x_mem 76 rfl rfl
set_option maxRecDepth 20000 in
theorem mw_57 : (Cond.soleField "BreakingDisk$Files" "length" : Cond) ∈ x_tb := x_mem 77 rfl rfl
set_option maxRecDepth 20000 in
theorem mw_58 : (Cond.superclass "BreakingDisk$Files" "java/lang/Object" : Cond) ∈ x_tb := x_mem 78 rfl rfl
set_option maxRecDepth 20000 in
theorem mw_59 : (Cond.classLink "BreakingDisk" 29 "BreakingDisk$Journal" : Cond) ∈ x_tb := x_mem 79 rfl rfl
set_option maxRecDepth 20000 in
theorem mw_60 : (Cond.instantiable "BreakingDisk$Journal" 2 : Cond) ∈ x_tb := x_mem 80 rfl rfl
set_option maxRecDepth 20000 in
theorem ml_61 : (Cond.methodLinkNest "BreakingDisk" 31 ⟨"BreakingDisk$Journal", "<init>", "()V"⟩ "BreakingDisk" : Cond) ∈ lw_tbl := List.mem_of_getElem? (i := 81) rfl
set_option maxRecDepth 20000 in
theorem mw_62 : (Cond.instanceMethod ⟨"BreakingDisk$Journal", "<init>", "()V"⟩ : Cond) ∈ x_tb := x_mem 82 rfl rfl
set_option maxRecDepth 20000 in
theorem mw_63 : (Cond.code ⟨"BreakingDisk$Journal", "<init>", "()V"⟩ prog_4_method_1_code 1 none : Cond) ∈ x_tb := x_mem 83 rfl rfl
set_option maxRecDepth 20000 in
theorem mw_64 : (Cond.methodLink "BreakingDisk$Journal" 3 ⟨"java/lang/Object", "<init>", "()V"⟩ : Cond) ∈ x_tb := x_mem 84 rfl rfl
set_option maxRecDepth 20000 in
theorem mw_65 : (Cond.classLink "BreakingDisk$Journal" 9 "BreakingDisk$Operation" : Cond) ∈ x_tb := x_mem 85 rfl rfl
set_option maxRecDepth 20000 in
theorem ml_66 : (Cond.arrayOver (.object "BreakingDisk$Operation") : Cond) ∈ lw_tbl := List.mem_of_getElem? (i := 86) rfl
set_option maxRecDepth 20000 in
theorem mw_67 : (Cond.fieldLink "BreakingDisk$Journal" 11 "BreakingDisk$Journal" "row" "[LBreakingDisk$Operation;" : Cond) ∈ x_tb := x_mem 87 rfl rfl
set_option maxRecDepth 20000 in
theorem mw_68 : (Cond.fieldLink "BreakingDisk$Journal" 17 "BreakingDisk$Journal" "length" "I" : Cond) ∈ x_tb := x_mem 88 rfl rfl
set_option maxRecDepth 20000 in
theorem ml_69 : (Cond.fieldLinkNest "BreakingDisk" 119 "BreakingDisk$Journal" "length" "I" "BreakingDisk" : Cond) ∈ lw_tbl := List.mem_of_getElem? (i := 89) rfl
set_option maxRecDepth 20000 in
theorem mw_70 : (Cond.laysFinal "BreakingDisk$Journal" "BreakingDisk$Journal" "row" "[LBreakingDisk$Operation;" : Cond) ∈ x_tb := x_mem 90 rfl rfl
set_option maxRecDepth 20000 in
theorem mw_71 : (Cond.soleField "BreakingDisk$Journal" "row" : Cond) ∈ x_tb := x_mem 91 rfl rfl
set_option maxRecDepth 20000 in
theorem mw_72 : (Cond.lays "BreakingDisk$Journal" "BreakingDisk$Journal" "length" "I" : Cond) ∈ x_tb := x_mem 92 rfl rfl
set_option maxRecDepth 20000 in
theorem mw_73 : (Cond.soleField "BreakingDisk$Journal" "length" : Cond) ∈ x_tb := x_mem 93 rfl rfl
set_option maxRecDepth 20000 in
theorem mw_74 : (Cond.superclass "BreakingDisk$Journal" "java/lang/Object" : Cond) ∈ x_tb := x_mem 94 rfl rfl
set_option maxRecDepth 20000 in
theorem mw_75 : (Cond.classLink "BreakingDisk" 36 "BreakingDisk$Bytes" : Cond) ∈ x_tb := x_mem 95 rfl rfl
set_option maxRecDepth 20000 in
theorem mw_76 : (Cond.instantiable "BreakingDisk$Bytes" 1 : Cond) ∈ x_tb := x_mem 96 rfl rfl
set_option maxRecDepth 20000 in
theorem mw_77 : (Cond.methodLink "BreakingDisk" 38 ⟨"BreakingDisk$Bytes", "<init>", "([B)V"⟩ : Cond) ∈ x_tb := x_mem 97 rfl rfl
set_option maxRecDepth 20000 in
theorem mw_78 : (Cond.instanceMethod ⟨"BreakingDisk$Bytes", "<init>", "([B)V"⟩ : Cond) ∈ x_tb := x_mem 98 rfl rfl
set_option maxRecDepth 20000 in
theorem mw_79 : (Cond.code ⟨"BreakingDisk$Bytes", "<init>", "([B)V"⟩ prog_2_method_1_code 2 none : Cond) ∈ x_tb := x_mem 99 rfl rfl
set_option maxRecDepth 20000 in
theorem mw_80 : (Cond.methodLink "BreakingDisk$Bytes" 3 ⟨"java/lang/Object", "<init>", "()V"⟩ : Cond) ∈ x_tb := x_mem 100 rfl rfl
set_option maxRecDepth 20000 in
theorem mw_81 : (Cond.fieldLink "BreakingDisk$Bytes" 9 "BreakingDisk$Bytes" "row" "[B" : Cond) ∈ x_tb := x_mem 101 rfl rfl
set_option maxRecDepth 20000 in
theorem mw_82 : (Cond.laysFinal "BreakingDisk$Bytes" "BreakingDisk$Bytes" "row" "[B" : Cond) ∈ x_tb := x_mem 102 rfl rfl
set_option maxRecDepth 20000 in
theorem mw_83 : (Cond.soleField "BreakingDisk$Bytes" "row" : Cond) ∈ x_tb := x_mem 103 rfl rfl
set_option maxRecDepth 20000 in
theorem mw_84 : (Cond.superclass "BreakingDisk$Bytes" "java/lang/Object" : Cond) ∈ x_tb := x_mem 104 rfl rfl
set_option maxRecDepth 20000 in
theorem mw_85 : (Cond.fieldLink "BreakingDisk" 10 "BreakingDisk" "tape" "LBreakingDisk$Tape;" : Cond) ∈ x_tb := x_mem 105 rfl rfl
set_option maxRecDepth 20000 in
theorem mw_86 : (Cond.fieldLink "BreakingDisk" 19 "BreakingDisk" "now" "LBreakingDisk$Files;" : Cond) ∈ x_tb := x_mem 106 rfl rfl
set_option maxRecDepth 20000 in
theorem mw_87 : (Cond.fieldLink "BreakingDisk" 23 "BreakingDisk" "kept" "LBreakingDisk$Files;" : Cond) ∈ x_tb := x_mem 107 rfl rfl
set_option maxRecDepth 20000 in
theorem mw_88 : (Cond.fieldLink "BreakingDisk" 26 "BreakingDisk" "told" "LBreakingDisk$Files;" : Cond) ∈ x_tb := x_mem 108 rfl rfl
set_option maxRecDepth 20000 in
theorem mw_89 : (Cond.fieldLink "BreakingDisk" 32 "BreakingDisk" "journal" "LBreakingDisk$Journal;" : Cond) ∈ x_tb := x_mem 109 rfl rfl
set_option maxRecDepth 20000 in
theorem mw_90 : (Cond.fieldLink "BreakingDisk" 41 "BreakingDisk" "currentPath" "LBreakingDisk$Bytes;" : Cond) ∈ x_tb := x_mem 110 rfl rfl
set_option maxRecDepth 20000 in
theorem mw_91 : (Cond.fieldLink "BreakingDisk" 45 "BreakingDisk" "allOperations" "I" : Cond) ∈ x_tb := x_mem 111 rfl rfl
set_option maxRecDepth 20000 in
theorem mw_92 : (Cond.laysFinal "BreakingDisk" "BreakingDisk" "tape" "LBreakingDisk$Tape;" : Cond) ∈ x_tb := x_mem 112 rfl rfl
set_option maxRecDepth 20000 in
theorem mw_93 : (Cond.soleField "BreakingDisk" "tape" : Cond) ∈ x_tb := x_mem 113 rfl rfl
set_option maxRecDepth 20000 in
theorem mw_94 : (Cond.laysFinal "BreakingDisk" "BreakingDisk" "now" "LBreakingDisk$Files;" : Cond) ∈ x_tb := x_mem 114 rfl rfl
set_option maxRecDepth 20000 in
theorem mw_95 : (Cond.soleField "BreakingDisk" "now" : Cond) ∈ x_tb := x_mem 115 rfl rfl
set_option maxRecDepth 20000 in
theorem mw_96 : (Cond.laysFinal "BreakingDisk" "BreakingDisk" "kept" "LBreakingDisk$Files;" : Cond) ∈ x_tb := x_mem 116 rfl rfl
set_option maxRecDepth 20000 in
theorem mw_97 : (Cond.soleField "BreakingDisk" "kept" : Cond) ∈ x_tb := x_mem 117 rfl rfl
set_option maxRecDepth 20000 in
theorem mw_98 : (Cond.laysFinal "BreakingDisk" "BreakingDisk" "told" "LBreakingDisk$Files;" : Cond) ∈ x_tb := x_mem 118 rfl rfl
set_option maxRecDepth 20000 in
theorem mw_99 : (Cond.soleField "BreakingDisk" "told" : Cond) ∈ x_tb := x_mem 119 rfl rfl
set_option maxRecDepth 20000 in
theorem mw_100 : (Cond.laysFinal "BreakingDisk" "BreakingDisk" "journal" "LBreakingDisk$Journal;" : Cond) ∈ x_tb := x_mem 120 rfl rfl
set_option maxRecDepth 20000 in
theorem mw_101 : (Cond.soleField "BreakingDisk" "journal" : Cond) ∈ x_tb := x_mem 121 rfl rfl
set_option maxRecDepth 20000 in
theorem mw_102 : (Cond.lays "BreakingDisk" "BreakingDisk" "currentPath" "LBreakingDisk$Bytes;" : Cond) ∈ x_tb := x_mem 122 rfl rfl
set_option maxRecDepth 20000 in
theorem mw_103 : (Cond.soleField "BreakingDisk" "currentPath" : Cond) ∈ x_tb := x_mem 123 rfl rfl
set_option maxRecDepth 20000 in
theorem mw_104 : (Cond.lays "BreakingDisk" "BreakingDisk" "allOperations" "I" : Cond) ∈ x_tb := x_mem 124 rfl rfl
set_option maxRecDepth 20000 in
theorem mw_105 : (Cond.soleField "BreakingDisk" "allOperations" : Cond) ∈ x_tb := x_mem 125 rfl rfl
set_option maxRecDepth 20000 in
theorem mw_106 : (Cond.superclass "BreakingDisk" "java/lang/Object" : Cond) ∈ x_tb := x_mem 126 rfl rfl
set_option maxRecDepth 20000 in
theorem mw_107 : (Cond.methodLink "BreakingDiskLaw" 40 ⟨"BreakingDisk", "put", "(JI)Z"⟩ : Cond) ∈ x_tb := x_mem 127 rfl rfl
set_option maxRecDepth 20000 in
theorem mw_108 : (Cond.instanceMethod ⟨"BreakingDisk", "put", "(JI)Z"⟩ : Cond) ∈ x_tb := x_mem 128 rfl rfl
set_option maxRecDepth 20000 in
theorem mw_109 : (Cond.selects "BreakingDisk" ⟨"BreakingDisk", "put", "(JI)Z"⟩ ⟨"BreakingDisk", "put", "(JI)Z"⟩ : Cond) ∈ x_tb := x_mem 129 rfl rfl
set_option maxRecDepth 20000 in
theorem mw_110 : (Cond.code ⟨"BreakingDisk", "put", "(JI)Z"⟩ prog_1_method_2_code 4 (some .boolean) : Cond) ∈ x_tb := x_mem 130 rfl rfl
set_option maxRecDepth 20000 in
theorem mw_111 : (Cond.methodLink "BreakingDisk" 49 ⟨"BreakingDisk$Tape", "append", "(JI)Z"⟩ : Cond) ∈ x_tb := x_mem 131 rfl rfl
set_option maxRecDepth 20000 in
theorem mw_112 : (Cond.instanceMethod ⟨"BreakingDisk$Tape", "append", "(JI)Z"⟩ : Cond) ∈ x_tb := x_mem 132 rfl rfl
set_option maxRecDepth 20000 in
theorem mw_113 : (Cond.selects "BreakingDisk$Tape" ⟨"BreakingDisk$Tape", "append", "(JI)Z"⟩ ⟨"BreakingDisk$Tape", "append", "(JI)Z"⟩ : Cond) ∈ x_tb := x_mem 133 rfl rfl
set_option maxRecDepth 20000 in
theorem mw_114 : (Cond.code ⟨"BreakingDisk$Tape", "append", "(JI)Z"⟩ prog_8_method_2_code 5 (some .boolean) : Cond) ∈ x_tb := x_mem 134 rfl rfl
set_option maxRecDepth 20000 in
theorem mw_115 : (Cond.methodLink "BreakingDiskLaw" 65 ⟨"BreakingDisk", "sync", "()I"⟩ : Cond) ∈ x_tb := x_mem 135 rfl rfl
set_option maxRecDepth 20000 in
theorem mw_116 : (Cond.instanceMethod ⟨"BreakingDisk", "sync", "()I"⟩ : Cond) ∈ x_tb := x_mem 136 rfl rfl
set_option maxRecDepth 20000 in
theorem mw_117 : (Cond.selects "BreakingDisk" ⟨"BreakingDisk", "sync", "()I"⟩ ⟨"BreakingDisk", "sync", "()I"⟩ : Cond) ∈ x_tb := x_mem 137 rfl rfl
set_option maxRecDepth 20000 in
theorem mw_118 : (Cond.code ⟨"BreakingDisk", "sync", "()I"⟩ prog_1_method_7_code 2 (some .int) : Cond) ∈ x_tb := x_mem 138 rfl rfl
set_option maxRecDepth 20000 in
theorem mw_119 : (Cond.methodLink "BreakingDisk" 120 ⟨"BreakingDisk$Files", "copyFrom", "(LBreakingDisk$Files;)V"⟩ : Cond) ∈ x_tb := x_mem 139 rfl rfl
set_option maxRecDepth 20000 in
theorem mw_120 : (Cond.instanceMethod ⟨"BreakingDisk$Files", "copyFrom", "(LBreakingDisk$Files;)V"⟩ : Cond) ∈ x_tb := x_mem 140 rfl rfl
set_option maxRecDepth 20000 in
theorem mw_121 : (Cond.selects "BreakingDisk$Files" ⟨"BreakingDisk$Files", "copyFrom", "(LBreakingDisk$Files;)V"⟩ ⟨"BreakingDisk$Files", "copyFrom", "(LBreakingDisk$Files;)V"⟩ : Cond) ∈ x_tb := x_mem 141 rfl rfl
set_option maxRecDepth 20000 in
theorem mw_122 : (Cond.code ⟨"BreakingDisk$Files", "copyFrom", "(LBreakingDisk$Files;)V"⟩ prog_3_method_7_code 3 none : Cond) ∈ x_tb := x_mem 142 rfl rfl
set_option maxRecDepth 20000 in
theorem mw_123 : (Cond.methodLink "BreakingDisk" 124 ⟨"BreakingDisk$Journal", "clear", "()V"⟩ : Cond) ∈ x_tb := x_mem 143 rfl rfl
set_option maxRecDepth 20000 in
theorem mw_124 : (Cond.instanceMethod ⟨"BreakingDisk$Journal", "clear", "()V"⟩ : Cond) ∈ x_tb := x_mem 144 rfl rfl
set_option maxRecDepth 20000 in
theorem mw_125 : (Cond.selects "BreakingDisk$Journal" ⟨"BreakingDisk$Journal", "clear", "()V"⟩ ⟨"BreakingDisk$Journal", "clear", "()V"⟩ : Cond) ∈ x_tb := x_mem 145 rfl rfl
set_option maxRecDepth 20000 in
theorem mw_126 : (Cond.code ⟨"BreakingDisk$Journal", "clear", "()V"⟩ prog_4_method_5_code 1 none : Cond) ∈ x_tb := x_mem 146 rfl rfl
set_option maxRecDepth 20000 in
theorem mw_127 : (Cond.methodLink "BreakingDiskLaw" 73 ⟨"BreakingDisk", "size", "(II)I"⟩ : Cond) ∈ x_tb := x_mem 147 rfl rfl
set_option maxRecDepth 20000 in
theorem mw_128 : (Cond.instanceMethod ⟨"BreakingDisk", "size", "(II)I"⟩ : Cond) ∈ x_tb := x_mem 148 rfl rfl
set_option maxRecDepth 20000 in
theorem mw_129 : (Cond.selects "BreakingDisk" ⟨"BreakingDisk", "size", "(II)I"⟩ ⟨"BreakingDisk", "size", "(II)I"⟩ : Cond) ∈ x_tb := x_mem 149 rfl rfl
set_option maxRecDepth 20000 in
theorem mw_130 : (Cond.code ⟨"BreakingDisk", "size", "(II)I"⟩ prog_1_method_9_code 4 (some .int) : Cond) ∈ x_tb := x_mem 150 rfl rfl
set_option maxRecDepth 20000 in
theorem mw_131 : (Cond.methodLink "BreakingDisk" 74 ⟨"BreakingDisk", "nameOf", "(II)LBreakingDisk$Name;"⟩ : Cond) ∈ x_tb := x_mem 151 rfl rfl
set_option maxRecDepth 20000 in
theorem ml_132 : (Cond.privateMethod ⟨"BreakingDisk", "nameOf", "(II)LBreakingDisk$Name;"⟩ : Cond) ∈ lw_tbl := List.mem_of_getElem? (i := 152) rfl
set_option maxRecDepth 20000 in
theorem mw_133 : (Cond.instanceMethod ⟨"BreakingDisk", "nameOf", "(II)LBreakingDisk$Name;"⟩ : Cond) ∈ x_tb := x_mem 153 rfl rfl
set_option maxRecDepth 20000 in
theorem mw_134 : (Cond.code ⟨"BreakingDisk", "nameOf", "(II)LBreakingDisk$Name;"⟩ prog_1_method_18_code 3 (some (.object "BreakingDisk$Name")) : Cond) ∈ x_tb := x_mem 154 rfl rfl
set_option maxRecDepth 20000 in
theorem mw_135 : (Cond.classLink "BreakingDisk" 157 "BreakingDisk$Name" : Cond) ∈ x_tb := x_mem 155 rfl rfl
set_option maxRecDepth 20000 in
theorem mw_136 : (Cond.instantiable "BreakingDisk$Name" 3 : Cond) ∈ x_tb := x_mem 156 rfl rfl
set_option maxRecDepth 20000 in
theorem mw_137 : (Cond.methodLink "BreakingDisk" 177 ⟨"BreakingDisk$Name", "<init>", "(IILBreakingDisk$Bytes;)V"⟩ : Cond) ∈ x_tb := x_mem 157 rfl rfl
set_option maxRecDepth 20000 in
theorem mw_138 : (Cond.instanceMethod ⟨"BreakingDisk$Name", "<init>", "(IILBreakingDisk$Bytes;)V"⟩ : Cond) ∈ x_tb := x_mem 158 rfl rfl
set_option maxRecDepth 20000 in
theorem mw_139 : (Cond.code ⟨"BreakingDisk$Name", "<init>", "(IILBreakingDisk$Bytes;)V"⟩ prog_5_method_1_code 4 none : Cond) ∈ x_tb := x_mem 159 rfl rfl
set_option maxRecDepth 20000 in
theorem mw_140 : (Cond.methodLink "BreakingDisk$Name" 1 ⟨"java/lang/Object", "<init>", "()V"⟩ : Cond) ∈ x_tb := x_mem 160 rfl rfl
set_option maxRecDepth 20000 in
theorem mw_141 : (Cond.fieldLink "BreakingDisk$Name" 7 "BreakingDisk$Name" "sort" "I" : Cond) ∈ x_tb := x_mem 161 rfl rfl
set_option maxRecDepth 20000 in
theorem ml_142 : (Cond.fieldLinkNest "BreakingDisk$Files" 33 "BreakingDisk$Name" "sort" "I" "BreakingDisk" : Cond) ∈ lw_tbl := List.mem_of_getElem? (i := 162) rfl
set_option maxRecDepth 20000 in
theorem mw_143 : (Cond.fieldLink "BreakingDisk$Name" 13 "BreakingDisk$Name" "time" "I" : Cond) ∈ x_tb := x_mem 163 rfl rfl
set_option maxRecDepth 20000 in
theorem ml_144 : (Cond.fieldLinkNest "BreakingDisk" 156 "BreakingDisk$Name" "time" "I" "BreakingDisk" : Cond) ∈ lw_tbl := List.mem_of_getElem? (i := 164) rfl
set_option maxRecDepth 20000 in
theorem mw_145 : (Cond.fieldLink "BreakingDisk$Name" 16 "BreakingDisk$Name" "path" "LBreakingDisk$Bytes;" : Cond) ∈ x_tb := x_mem 165 rfl rfl
set_option maxRecDepth 20000 in
theorem ml_146 : (Cond.fieldLinkNest "BreakingDisk" 161 "BreakingDisk$Name" "path" "LBreakingDisk$Bytes;" "BreakingDisk" : Cond) ∈ lw_tbl := List.mem_of_getElem? (i := 166) rfl
set_option maxRecDepth 20000 in
theorem mw_147 : (Cond.laysFinal "BreakingDisk$Name" "BreakingDisk$Name" "sort" "I" : Cond) ∈ x_tb := x_mem 167 rfl rfl
set_option maxRecDepth 20000 in
theorem mw_148 : (Cond.soleField "BreakingDisk$Name" "sort" : Cond) ∈ x_tb := x_mem 168 rfl rfl
set_option maxRecDepth 20000 in
theorem mw_149 : (Cond.laysFinal "BreakingDisk$Name" "BreakingDisk$Name" "time" "I" : Cond) ∈ x_tb := x_mem 169 rfl rfl
set_option maxRecDepth 20000 in
theorem mw_150 : (Cond.soleField "BreakingDisk$Name" "time" : Cond) ∈ x_tb := x_mem 170 rfl rfl
set_option maxRecDepth 20000 in
theorem mw_151 : (Cond.laysFinal "BreakingDisk$Name" "BreakingDisk$Name" "path" "LBreakingDisk$Bytes;" : Cond) ∈ x_tb := x_mem 171 rfl rfl
set_option maxRecDepth 20000 in
theorem mw_152 : (Cond.soleField "BreakingDisk$Name" "path" : Cond) ∈ x_tb := x_mem 172 rfl rfl
set_option maxRecDepth 20000 in
theorem mw_153 : (Cond.superclass "BreakingDisk$Name" "java/lang/Object" : Cond) ∈ x_tb := x_mem 173 rfl rfl
set_option maxRecDepth 20000 in
theorem mw_154 : (Cond.methodLink "BreakingDisk" 82 ⟨"BreakingDisk$Files", "find", "(LBreakingDisk$Name;)LBreakingDisk$StoredFile;"⟩ : Cond) ∈ x_tb := x_mem 174 rfl rfl
set_option maxRecDepth 20000 in
theorem mw_155 : (Cond.instanceMethod ⟨"BreakingDisk$Files", "find", "(LBreakingDisk$Name;)LBreakingDisk$StoredFile;"⟩ : Cond) ∈ x_tb := x_mem 175 rfl rfl
set_option maxRecDepth 20000 in
theorem mw_156 : (Cond.selects "BreakingDisk$Files" ⟨"BreakingDisk$Files", "find", "(LBreakingDisk$Name;)LBreakingDisk$StoredFile;"⟩ ⟨"BreakingDisk$Files", "find", "(LBreakingDisk$Name;)LBreakingDisk$StoredFile;"⟩ : Cond) ∈ x_tb := x_mem 176 rfl rfl
set_option maxRecDepth 20000 in
theorem mw_157 : (Cond.code ⟨"BreakingDisk$Files", "find", "(LBreakingDisk$Name;)LBreakingDisk$StoredFile;"⟩ prog_3_method_4_code 2 (some (.object "BreakingDisk$StoredFile")) : Cond) ∈ x_tb := x_mem 177 rfl rfl
set_option maxRecDepth 20000 in
theorem mw_158 : (Cond.methodLink "BreakingDisk$Files" 21 ⟨"BreakingDisk$Files", "indexOf", "(LBreakingDisk$Name;)I"⟩ : Cond) ∈ x_tb := x_mem 178 rfl rfl
set_option maxRecDepth 20000 in
theorem ml_159 : (Cond.privateMethod ⟨"BreakingDisk$Files", "indexOf", "(LBreakingDisk$Name;)I"⟩ : Cond) ∈ lw_tbl := List.mem_of_getElem? (i := 179) rfl
set_option maxRecDepth 20000 in
theorem mw_160 : (Cond.instanceMethod ⟨"BreakingDisk$Files", "indexOf", "(LBreakingDisk$Name;)I"⟩ : Cond) ∈ x_tb := x_mem 180 rfl rfl
set_option maxRecDepth 20000 in
theorem mw_161 : (Cond.code ⟨"BreakingDisk$Files", "indexOf", "(LBreakingDisk$Name;)I"⟩ prog_3_method_9_code 3 (some .int) : Cond) ∈ x_tb := x_mem 181 rfl rfl
set_option maxRecDepth 20000 in
theorem mw_162 : (Cond.methodLink "BreakingDisk$Files" 55 ⟨"BreakingDisk$Name", "order", "(LBreakingDisk$Name;)I"⟩ : Cond) ∈ x_tb := x_mem 182 rfl rfl
set_option maxRecDepth 20000 in
theorem mw_163 : (Cond.instanceMethod ⟨"BreakingDisk$Name", "order", "(LBreakingDisk$Name;)I"⟩ : Cond) ∈ x_tb := x_mem 183 rfl rfl
set_option maxRecDepth 20000 in
theorem mw_164 : (Cond.selects "BreakingDisk$Name" ⟨"BreakingDisk$Name", "order", "(LBreakingDisk$Name;)I"⟩ ⟨"BreakingDisk$Name", "order", "(LBreakingDisk$Name;)I"⟩ : Cond) ∈ x_tb := x_mem 184 rfl rfl
set_option maxRecDepth 20000 in
theorem mw_165 : (Cond.code ⟨"BreakingDisk$Name", "order", "(LBreakingDisk$Name;)I"⟩ prog_5_method_2_code 2 (some .int) : Cond) ∈ x_tb := x_mem 185 rfl rfl
set_option maxRecDepth 20000 in
theorem mw_166 : (Cond.methodLink "BreakingDisk$Name" 20 ⟨"java/lang/Integer", "compare", "(II)I"⟩ : Cond) ∈ x_tb := x_mem 186 rfl rfl
set_option maxRecDepth 20000 in
theorem mw_167 : (Cond.static ⟨"java/lang/Integer", "compare", "(II)I"⟩ : Cond) ∈ x_tb := x_mem 187 rfl rfl
set_option maxRecDepth 20000 in
theorem mw_168 : (Cond.code ⟨"java/lang/Integer", "compare", "(II)I"⟩ prog_16_method_40_code 2 (some .int) : Cond) ∈ x_tb := x_mem 188 rfl rfl
set_option maxRecDepth 20000 in
theorem mw_169 : (Cond.methodLink "BreakingDisk$Name" 26 ⟨"BreakingDisk$Bytes", "order", "(LBreakingDisk$Bytes;)I"⟩ : Cond) ∈ x_tb := x_mem 189 rfl rfl
set_option maxRecDepth 20000 in
theorem mw_170 : (Cond.instanceMethod ⟨"BreakingDisk$Bytes", "order", "(LBreakingDisk$Bytes;)I"⟩ : Cond) ∈ x_tb := x_mem 190 rfl rfl
set_option maxRecDepth 20000 in
theorem mw_171 : (Cond.selects "BreakingDisk$Bytes" ⟨"BreakingDisk$Bytes", "order", "(LBreakingDisk$Bytes;)I"⟩ ⟨"BreakingDisk$Bytes", "order", "(LBreakingDisk$Bytes;)I"⟩ : Cond) ∈ x_tb := x_mem 191 rfl rfl
set_option maxRecDepth 20000 in
theorem mw_172 : (Cond.code ⟨"BreakingDisk$Bytes", "order", "(LBreakingDisk$Bytes;)I"⟩ prog_2_method_4_code 5 (some .int) : Cond) ∈ x_tb := x_mem 192 rfl rfl
set_option maxRecDepth 20000 in
theorem mw_173 : (Cond.methodLink "BreakingDisk$Files" 25 ⟨"BreakingDisk$Files", "nth", "(I)LBreakingDisk$StoredFile;"⟩ : Cond) ∈ x_tb := x_mem 193 rfl rfl
set_option maxRecDepth 20000 in
theorem mw_174 : (Cond.instanceMethod ⟨"BreakingDisk$Files", "nth", "(I)LBreakingDisk$StoredFile;"⟩ : Cond) ∈ x_tb := x_mem 194 rfl rfl
set_option maxRecDepth 20000 in
theorem mw_175 : (Cond.selects "BreakingDisk$Files" ⟨"BreakingDisk$Files", "nth", "(I)LBreakingDisk$StoredFile;"⟩ ⟨"BreakingDisk$Files", "nth", "(I)LBreakingDisk$StoredFile;"⟩ : Cond) ∈ x_tb := x_mem 195 rfl rfl
set_option maxRecDepth 20000 in
theorem mw_176 : (Cond.code ⟨"BreakingDisk$Files", "nth", "(I)LBreakingDisk$StoredFile;"⟩ prog_3_method_3_code 2 (some (.object "BreakingDisk$StoredFile")) : Cond) ∈ x_tb := x_mem 196 rfl rfl
set_option maxRecDepth 20000 in
theorem mw_177 : (Cond.methodLink "BreakingDisk" 67 ⟨"BreakingDisk$Bytes", "length", "()I"⟩ : Cond) ∈ x_tb := x_mem 197 rfl rfl
set_option maxRecDepth 20000 in
theorem mw_178 : (Cond.instanceMethod ⟨"BreakingDisk$Bytes", "length", "()I"⟩ : Cond) ∈ x_tb := x_mem 198 rfl rfl
set_option maxRecDepth 20000 in
theorem mw_179 : (Cond.selects "BreakingDisk$Bytes" ⟨"BreakingDisk$Bytes", "length", "()I"⟩ ⟨"BreakingDisk$Bytes", "length", "()I"⟩ : Cond) ∈ x_tb := x_mem 199 rfl rfl
set_option maxRecDepth 20000 in
theorem mw_180 : (Cond.code ⟨"BreakingDisk$Bytes", "length", "()I"⟩ prog_2_method_2_code 1 (some .int) : Cond) ∈ x_tb := x_mem 200 rfl rfl
set_option maxRecDepth 20000 in
theorem mw_181 : (Cond.methodLink "BreakingDiskLaw" 78 ⟨"BreakingDisk", "at", "(III)I"⟩ : Cond) ∈ x_tb := x_mem 201 rfl rfl
set_option maxRecDepth 20000 in
theorem mw_182 : (Cond.instanceMethod ⟨"BreakingDisk", "at", "(III)I"⟩ : Cond) ∈ x_tb := x_mem 202 rfl rfl
set_option maxRecDepth 20000 in
theorem mw_183 : (Cond.selects "BreakingDisk" ⟨"BreakingDisk", "at", "(III)I"⟩ ⟨"BreakingDisk", "at", "(III)I"⟩ : Cond) ∈ x_tb := x_mem 203 rfl rfl
set_option maxRecDepth 20000 in
theorem mw_184 : (Cond.code ⟨"BreakingDisk", "at", "(III)I"⟩ prog_1_method_10_code 5 (some .int) : Cond) ∈ x_tb := x_mem 204 rfl rfl
set_option maxRecDepth 20000 in
theorem mw_185 : (Cond.methodLink "BreakingDisk" 139 ⟨"BreakingDisk$Bytes", "byteAt", "(I)I"⟩ : Cond) ∈ x_tb := x_mem 205 rfl rfl
set_option maxRecDepth 20000 in
theorem mw_186 : (Cond.instanceMethod ⟨"BreakingDisk$Bytes", "byteAt", "(I)I"⟩ : Cond) ∈ x_tb := x_mem 206 rfl rfl
set_option maxRecDepth 20000 in
theorem mw_187 : (Cond.selects "BreakingDisk$Bytes" ⟨"BreakingDisk$Bytes", "byteAt", "(I)I"⟩ ⟨"BreakingDisk$Bytes", "byteAt", "(I)I"⟩ : Cond) ∈ x_tb := x_mem 207 rfl rfl
set_option maxRecDepth 20000 in
theorem mw_188 : (Cond.code ⟨"BreakingDisk$Bytes", "byteAt", "(I)I"⟩ prog_2_method_3_code 2 (some .int) : Cond) ∈ x_tb := x_mem 208 rfl rfl
set_option maxRecDepth 20000 in
theorem mw_189 : (Cond.methodLink "BreakingDiskLaw" 83 ⟨"BreakingDisk", "list", "(I)I"⟩ : Cond) ∈ x_tb := x_mem 209 rfl rfl
set_option maxRecDepth 20000 in
theorem mw_190 : (Cond.instanceMethod ⟨"BreakingDisk", "list", "(I)I"⟩ : Cond) ∈ x_tb := x_mem 210 rfl rfl
set_option maxRecDepth 20000 in
theorem mw_191 : (Cond.selects "BreakingDisk" ⟨"BreakingDisk", "list", "(I)I"⟩ ⟨"BreakingDisk", "list", "(I)I"⟩ : Cond) ∈ x_tb := x_mem 211 rfl rfl
set_option maxRecDepth 20000 in
theorem mw_192 : (Cond.code ⟨"BreakingDisk", "list", "(I)I"⟩ prog_1_method_11_code 2 (some .int) : Cond) ∈ x_tb := x_mem 212 rfl rfl
set_option maxRecDepth 20000 in
theorem mw_193 : (Cond.methodLink "BreakingDisk" 143 ⟨"BreakingDisk", "isSort", "(I)Z"⟩ : Cond) ∈ x_tb := x_mem 213 rfl rfl
set_option maxRecDepth 20000 in
theorem mw_194 : (Cond.static ⟨"BreakingDisk", "isSort", "(I)Z"⟩ : Cond) ∈ x_tb := x_mem 214 rfl rfl
set_option maxRecDepth 20000 in
theorem mw_195 : (Cond.code ⟨"BreakingDisk", "isSort", "(I)Z"⟩ prog_1_method_14_code 1 (some .boolean) : Cond) ∈ x_tb := x_mem 215 rfl rfl
set_option maxRecDepth 20000 in
theorem mw_196 : (Cond.methodLink "BreakingDisk" 147 ⟨"BreakingDisk$Files", "copySortFrom", "(LBreakingDisk$Files;I)V"⟩ : Cond) ∈ x_tb := x_mem 216 rfl rfl
set_option maxRecDepth 20000 in
theorem mw_197 : (Cond.instanceMethod ⟨"BreakingDisk$Files", "copySortFrom", "(LBreakingDisk$Files;I)V"⟩ : Cond) ∈ x_tb := x_mem 217 rfl rfl
set_option maxRecDepth 20000 in
theorem mw_198 : (Cond.selects "BreakingDisk$Files" ⟨"BreakingDisk$Files", "copySortFrom", "(LBreakingDisk$Files;I)V"⟩ ⟨"BreakingDisk$Files", "copySortFrom", "(LBreakingDisk$Files;I)V"⟩ : Cond) ∈ x_tb := x_mem 218 rfl rfl
set_option maxRecDepth 20000 in
theorem mw_199 : (Cond.code ⟨"BreakingDisk$Files", "copySortFrom", "(LBreakingDisk$Files;I)V"⟩ prog_3_method_8_code 4 none : Cond) ∈ x_tb := x_mem 219 rfl rfl
set_option maxRecDepth 20000 in
theorem mw_200 : (Cond.methodLink "BreakingDiskLaw" 87 ⟨"BreakingDisk", "listed", "(II)I"⟩ : Cond) ∈ x_tb := x_mem 220 rfl rfl
set_option maxRecDepth 20000 in
theorem mw_201 : (Cond.instanceMethod ⟨"BreakingDisk", "listed", "(II)I"⟩ : Cond) ∈ x_tb := x_mem 221 rfl rfl
set_option maxRecDepth 20000 in
theorem mw_202 : (Cond.selects "BreakingDisk" ⟨"BreakingDisk", "listed", "(II)I"⟩ ⟨"BreakingDisk", "listed", "(II)I"⟩ : Cond) ∈ x_tb := x_mem 222 rfl rfl
set_option maxRecDepth 20000 in
theorem mw_203 : (Cond.code ⟨"BreakingDisk", "listed", "(II)I"⟩ prog_1_method_12_code 4 (some .int) : Cond) ∈ x_tb := x_mem 223 rfl rfl
set_option maxRecDepth 20000 in
theorem mw_204 : (Cond.methodLink "BreakingDisk" 152 ⟨"BreakingDisk$Files", "nth", "(I)LBreakingDisk$StoredFile;"⟩ : Cond) ∈ x_tb := x_mem 224 rfl rfl
set_option maxRecDepth 20000 in
theorem mw_205 : (Cond.methodLink "BreakingDiskLaw" 91 ⟨"BreakingDisk", "count", "(I)I"⟩ : Cond) ∈ x_tb := x_mem 225 rfl rfl
set_option maxRecDepth 20000 in
theorem mw_206 : (Cond.instanceMethod ⟨"BreakingDisk", "count", "(I)I"⟩ : Cond) ∈ x_tb := x_mem 226 rfl rfl
set_option maxRecDepth 20000 in
theorem mw_207 : (Cond.selects "BreakingDisk" ⟨"BreakingDisk", "count", "(I)I"⟩ ⟨"BreakingDisk", "count", "(I)I"⟩ : Cond) ∈ x_tb := x_mem 227 rfl rfl
set_option maxRecDepth 20000 in
theorem mw_208 : (Cond.code ⟨"BreakingDisk", "count", "(I)I"⟩ prog_1_method_13_code 2 (some .int) : Cond) ∈ x_tb := x_mem 228 rfl rfl
set_option maxRecDepth 20000 in
theorem mw_209 : (Cond.methodLink "BreakingDisk" 164 ⟨"BreakingDisk$Files", "countOfSort", "(I)I"⟩ : Cond) ∈ x_tb := x_mem 229 rfl rfl
set_option maxRecDepth 20000 in
theorem mw_210 : (Cond.instanceMethod ⟨"BreakingDisk$Files", "countOfSort", "(I)I"⟩ : Cond) ∈ x_tb := x_mem 230 rfl rfl
set_option maxRecDepth 20000 in
theorem mw_211 : (Cond.selects "BreakingDisk$Files" ⟨"BreakingDisk$Files", "countOfSort", "(I)I"⟩ ⟨"BreakingDisk$Files", "countOfSort", "(I)I"⟩ : Cond) ∈ x_tb := x_mem 231 rfl rfl
set_option maxRecDepth 20000 in
theorem mw_212 : (Cond.code ⟨"BreakingDisk$Files", "countOfSort", "(I)I"⟩ prog_3_method_5_code 4 (some .int) : Cond) ∈ x_tb := x_mem 232 rfl rfl
set_option maxRecDepth 20000 in
theorem mw_213 : (Cond.methodLink "BreakingDiskLaw" 45 ⟨"BreakingDiskLaw", "path", "(LBreakingDisk;[J)I"⟩ : Cond) ∈ x_tb := x_mem 233 rfl rfl
set_option maxRecDepth 20000 in
theorem mw_214 : (Cond.static ⟨"BreakingDiskLaw", "path", "(LBreakingDisk;[J)I"⟩ : Cond) ∈ x_tb := x_mem 234 rfl rfl
set_option maxRecDepth 20000 in
theorem mw_215 : (Cond.codeWith ⟨"BreakingDiskLaw", "path", "(LBreakingDisk;[J)I"⟩ method_3_code 3 (some .int) [(0, 8, 11, 13)] : Cond) ∈ x_tb := x_mem 235 rfl rfl
set_option maxRecDepth 20000 in
theorem mw_216 : (Cond.classLink "BreakingDiskLaw" 13 "java/lang/IllegalArgumentException" : Cond) ∈ x_tb := x_mem 236 rfl rfl
set_option maxRecDepth 20000 in
theorem mw_217 : (Cond.methodLink "BreakingDiskLaw" 7 ⟨"BreakingDisk", "path", "()I"⟩ : Cond) ∈ x_tb := x_mem 237 rfl rfl
set_option maxRecDepth 20000 in
theorem mw_218 : (Cond.instanceMethod ⟨"BreakingDisk", "path", "()I"⟩ : Cond) ∈ x_tb := x_mem 238 rfl rfl
set_option maxRecDepth 20000 in
theorem mw_219 : (Cond.selects "BreakingDisk" ⟨"BreakingDisk", "path", "()I"⟩ ⟨"BreakingDisk", "path", "()I"⟩ : Cond) ∈ x_tb := x_mem 239 rfl rfl
set_option maxRecDepth 20000 in
theorem mw_220 : (Cond.code ⟨"BreakingDisk", "path", "()I"⟩ prog_1_method_3_code 1 (some .int) : Cond) ∈ x_tb := x_mem 240 rfl rfl
set_option maxRecDepth 20000 in
theorem mw_221 : (Cond.classLink "BreakingDisk" 56 "java/lang/IllegalArgumentException" : Cond) ∈ x_tb := x_mem 241 rfl rfl
set_option maxRecDepth 20000 in
theorem mw_222 : (Cond.instantiable "java/lang/IllegalArgumentException" 6 : Cond) ∈ x_tb := x_mem 242 rfl rfl
set_option maxRecDepth 20000 in
theorem ml_223 : (Cond.castable "java/lang/IllegalArgumentException" "java/lang/IllegalArgumentException" : Cond) ∈ lw_tbl := List.mem_of_getElem? (i := 243) rfl
set_option maxRecDepth 20000 in
theorem ml_224 : (Cond.declares ⟨"java/lang/RuntimeException", "<init>", "()V"⟩ : Cond) ∈ lw_tbl := List.mem_of_getElem? (i := 244) rfl
set_option maxRecDepth 20000 in
theorem ml_225 : (Cond.declares ⟨"java/lang/RuntimeException", "<init>", "(Ljava/lang/String;)V"⟩ : Cond) ∈ lw_tbl := List.mem_of_getElem? (i := 245) rfl
set_option maxRecDepth 20000 in
theorem ml_226 : (Cond.declares ⟨"java/lang/Exception", "<init>", "()V"⟩ : Cond) ∈ lw_tbl := List.mem_of_getElem? (i := 246) rfl
set_option maxRecDepth 20000 in
theorem ml_227 : (Cond.declares ⟨"java/lang/Exception", "<init>", "(Ljava/lang/String;)V"⟩ : Cond) ∈ lw_tbl := List.mem_of_getElem? (i := 247) rfl
set_option maxRecDepth 20000 in
theorem ml_228 : (Cond.declares ⟨"java/lang/Throwable", "<init>", "()V"⟩ : Cond) ∈ lw_tbl := List.mem_of_getElem? (i := 248) rfl
set_option maxRecDepth 20000 in
theorem ml_229 : (Cond.declares ⟨"java/lang/Throwable", "<init>", "(Ljava/lang/String;)V"⟩ : Cond) ∈ lw_tbl := List.mem_of_getElem? (i := 249) rfl
set_option maxRecDepth 20000 in
theorem mw_230 : (Cond.selects "java/lang/IllegalArgumentException" ⟨"java/lang/Throwable", "fillInStackTrace", "(I)Ljava/lang/Throwable;"⟩ ⟨"java/lang/Throwable", "fillInStackTrace", "(I)Ljava/lang/Throwable;"⟩ : Cond) ∈ x_tb := x_mem 250 rfl rfl
set_option maxRecDepth 20000 in
theorem mw_231 : (Cond.selects "java/lang/IllegalArgumentException" ⟨"java/lang/Throwable", "fillInStackTrace", "()Ljava/lang/Throwable;"⟩ ⟨"java/lang/Throwable", "fillInStackTrace", "()Ljava/lang/Throwable;"⟩ : Cond) ∈ x_tb := x_mem 251 rfl rfl
set_option maxRecDepth 20000 in
theorem mw_232 : (Cond.lays "java/lang/IllegalArgumentException" "java/lang/Throwable" "cause" "Ljava/lang/Throwable;" : Cond) ∈ x_tb := x_mem 252 rfl rfl
set_option maxRecDepth 20000 in
theorem mw_233 : (Cond.lays "java/lang/Throwable" "java/lang/Throwable" "cause" "Ljava/lang/Throwable;" : Cond) ∈ x_tb := x_mem 253 rfl rfl
set_option maxRecDepth 20000 in
theorem mw_234 : (Cond.lays "java/lang/IllegalArgumentException" "java/lang/Throwable" "stackTrace" "[Ljava/lang/StackTraceElement;" : Cond) ∈ x_tb := x_mem 254 rfl rfl
set_option maxRecDepth 20000 in
theorem mw_235 : (Cond.lays "java/lang/Throwable" "java/lang/Throwable" "stackTrace" "[Ljava/lang/StackTraceElement;" : Cond) ∈ x_tb := x_mem 255 rfl rfl
set_option maxRecDepth 20000 in
theorem mw_236 : (Cond.lays "java/lang/IllegalArgumentException" "java/lang/Throwable" "suppressedExceptions" "Ljava/util/List;" : Cond) ∈ x_tb := x_mem 256 rfl rfl
set_option maxRecDepth 20000 in
theorem mw_237 : (Cond.lays "java/lang/Throwable" "java/lang/Throwable" "suppressedExceptions" "Ljava/util/List;" : Cond) ∈ x_tb := x_mem 257 rfl rfl
set_option maxRecDepth 20000 in
theorem mw_238 : (Cond.lays "java/lang/IllegalArgumentException" "java/lang/Throwable" "detailMessage" "Ljava/lang/String;" : Cond) ∈ x_tb := x_mem 258 rfl rfl
set_option maxRecDepth 20000 in
theorem mw_239 : (Cond.lays "java/lang/Throwable" "java/lang/Throwable" "detailMessage" "Ljava/lang/String;" : Cond) ∈ x_tb := x_mem 259 rfl rfl
set_option maxRecDepth 20000 in
theorem mw_240 : (Cond.lays "java/lang/IllegalArgumentException" "java/lang/Throwable" "backtrace" "Ljava/lang/Object;" : Cond) ∈ x_tb := x_mem 260 rfl rfl
set_option maxRecDepth 20000 in
theorem mw_241 : (Cond.lays "java/lang/Throwable" "java/lang/Throwable" "backtrace" "Ljava/lang/Object;" : Cond) ∈ x_tb := x_mem 261 rfl rfl
set_option maxRecDepth 20000 in
theorem mw_242 : (Cond.fieldLink "java/lang/Throwable" 198 "java/lang/Throwable" "backtrace" "Ljava/lang/Object;" : Cond) ∈ x_tb := x_mem 262 rfl rfl
set_option maxRecDepth 20000 in
theorem mw_243 : (Cond.superclass "java/lang/Throwable" "java/lang/Object" : Cond) ∈ x_tb := x_mem 263 rfl rfl
set_option maxRecDepth 20000 in
theorem mw_244 : (Cond.instanceMethod ⟨"java/lang/Throwable", "<init>", "()V"⟩ : Cond) ∈ x_tb := x_mem 264 rfl rfl
set_option maxRecDepth 20000 in
theorem mw_245 : (Cond.code ⟨"java/lang/Throwable", "<init>", "()V"⟩ prog_21_method_1_code 1 none : Cond) ∈ x_tb := x_mem 265 rfl rfl
set_option maxRecDepth 20000 in
theorem mw_246 : (Cond.methodLink "java/lang/Throwable" 1 ⟨"java/lang/Object", "<init>", "()V"⟩ : Cond) ∈ x_tb := x_mem 266 rfl rfl
set_option maxRecDepth 20000 in
theorem mw_247 : (Cond.fieldLink "java/lang/Throwable" 13 "java/lang/Throwable" "UNASSIGNED_STACK" "[Ljava/lang/StackTraceElement;" : Cond) ∈ x_tb := x_mem 267 rfl rfl
set_option maxRecDepth 20000 in
theorem ml_248 : (Cond.laysStatic "java/lang/Throwable" "UNASSIGNED_STACK" "[Ljava/lang/StackTraceElement;" : Cond) ∈ lw_tbl := List.mem_of_getElem? (i := 268) rfl
set_option maxRecDepth 20000 in
theorem mw_249 : (Cond.fieldLink "java/lang/Throwable" 20 "java/lang/Throwable" "SUPPRESSED_SENTINEL" "Ljava/util/List;" : Cond) ∈ x_tb := x_mem 269 rfl rfl
set_option maxRecDepth 20000 in
theorem ml_250 : (Cond.laysStatic "java/lang/Throwable" "SUPPRESSED_SENTINEL" "Ljava/util/List;" : Cond) ∈ lw_tbl := List.mem_of_getElem? (i := 270) rfl
set_option maxRecDepth 20000 in
theorem mw_251 : (Cond.methodLink "java/lang/Throwable" 27 ⟨"java/lang/Throwable", "fillInStackTrace", "()Ljava/lang/Throwable;"⟩ : Cond) ∈ x_tb := x_mem 271 rfl rfl
set_option maxRecDepth 20000 in
theorem mw_252 : (Cond.instanceMethod ⟨"java/lang/Throwable", "fillInStackTrace", "()Ljava/lang/Throwable;"⟩ : Cond) ∈ x_tb := x_mem 272 rfl rfl
set_option maxRecDepth 20000 in
theorem mw_253 : (Cond.sameMethod "java/lang/Throwable" "java/lang/Throwable" "fillInStackTrace" "()Ljava/lang/Throwable;" : Cond) ∈ x_tb := x_mem 273 rfl rfl
set_option maxRecDepth 20000 in
theorem mw_254 : (Cond.selects "java/lang/IllegalStateException" ⟨"java/lang/Throwable", "fillInStackTrace", "()Ljava/lang/Throwable;"⟩ ⟨"java/lang/Throwable", "fillInStackTrace", "()Ljava/lang/Throwable;"⟩ : Cond) ∈ x_tb := x_mem 274 rfl rfl
set_option maxRecDepth 20000 in
theorem mw_255 : (Cond.selects "java/lang/IndexOutOfBoundsException" ⟨"java/lang/Throwable", "fillInStackTrace", "()Ljava/lang/Throwable;"⟩ ⟨"java/lang/Throwable", "fillInStackTrace", "()Ljava/lang/Throwable;"⟩ : Cond) ∈ x_tb := x_mem 275 rfl rfl
set_option maxRecDepth 20000 in
theorem mw_256 : (Cond.codeSync ⟨"java/lang/Throwable", "fillInStackTrace", "()Ljava/lang/Throwable;"⟩ prog_21_method_18_code 1 (some (.object "java/lang/Throwable")) : Cond) ∈ x_tb := x_mem 276 rfl rfl
set_option maxRecDepth 20000 in
theorem mw_257 : (Cond.methodLink "java/lang/Throwable" 202 ⟨"java/lang/Throwable", "fillInStackTrace", "(I)Ljava/lang/Throwable;"⟩ : Cond) ∈ x_tb := x_mem 277 rfl rfl
set_option maxRecDepth 20000 in
theorem ml_258 : (Cond.privateMethod ⟨"java/lang/Throwable", "fillInStackTrace", "(I)Ljava/lang/Throwable;"⟩ : Cond) ∈ lw_tbl := List.mem_of_getElem? (i := 278) rfl
set_option maxRecDepth 20000 in
theorem mw_259 : (Cond.instanceMethod ⟨"java/lang/Throwable", "fillInStackTrace", "(I)Ljava/lang/Throwable;"⟩ : Cond) ∈ x_tb := x_mem 279 rfl rfl
set_option maxRecDepth 20000 in
theorem mw_260 : (Cond.instantiable "java/lang/Throwable" 6 : Cond) ∈ x_tb := x_mem 280 rfl rfl
set_option maxRecDepth 20000 in
theorem mw_261 : (Cond.native ⟨"java/lang/Throwable", "fillInStackTrace", "(I)Ljava/lang/Throwable;"⟩ : Cond) ∈ x_tb := x_mem 281 rfl rfl
set_option maxRecDepth 20000 in
theorem ml_262 : (Cond.stringRef "BreakingDisk" 58 "the tape is too long for a PATH" : Cond) ∈ lw_tbl := List.mem_of_getElem? (i := 282) rfl
set_option maxRecDepth 20000 in
theorem mw_263 : (Cond.methodLink "BreakingDisk" 60 ⟨"java/lang/IllegalArgumentException", "<init>", "(Ljava/lang/String;)V"⟩ : Cond) ∈ x_tb := x_mem 283 rfl rfl
set_option maxRecDepth 20000 in
theorem mw_264 : (Cond.instanceMethod ⟨"java/lang/IllegalArgumentException", "<init>", "(Ljava/lang/String;)V"⟩ : Cond) ∈ x_tb := x_mem 284 rfl rfl
set_option maxRecDepth 20000 in
theorem mw_265 : (Cond.code ⟨"java/lang/IllegalArgumentException", "<init>", "(Ljava/lang/String;)V"⟩ prog_13_method_2_code 2 none : Cond) ∈ x_tb := x_mem 285 rfl rfl
set_option maxRecDepth 20000 in
theorem mw_266 : (Cond.methodLink "java/lang/IllegalArgumentException" 7 ⟨"java/lang/RuntimeException", "<init>", "(Ljava/lang/String;)V"⟩ : Cond) ∈ x_tb := x_mem 286 rfl rfl
set_option maxRecDepth 20000 in
theorem mw_267 : (Cond.instanceMethod ⟨"java/lang/RuntimeException", "<init>", "(Ljava/lang/String;)V"⟩ : Cond) ∈ x_tb := x_mem 287 rfl rfl
set_option maxRecDepth 20000 in
theorem mw_268 : (Cond.code ⟨"java/lang/RuntimeException", "<init>", "(Ljava/lang/String;)V"⟩ prog_18_method_2_code 2 none : Cond) ∈ x_tb := x_mem 288 rfl rfl
set_option maxRecDepth 20000 in
theorem mw_269 : (Cond.methodLink "java/lang/RuntimeException" 7 ⟨"java/lang/Exception", "<init>", "(Ljava/lang/String;)V"⟩ : Cond) ∈ x_tb := x_mem 289 rfl rfl
set_option maxRecDepth 20000 in
theorem mw_270 : (Cond.instanceMethod ⟨"java/lang/Exception", "<init>", "(Ljava/lang/String;)V"⟩ : Cond) ∈ x_tb := x_mem 290 rfl rfl
set_option maxRecDepth 20000 in
theorem mw_271 : (Cond.code ⟨"java/lang/Exception", "<init>", "(Ljava/lang/String;)V"⟩ prog_12_method_2_code 2 none : Cond) ∈ x_tb := x_mem 291 rfl rfl
set_option maxRecDepth 20000 in
theorem mw_272 : (Cond.methodLink "java/lang/Exception" 7 ⟨"java/lang/Throwable", "<init>", "(Ljava/lang/String;)V"⟩ : Cond) ∈ x_tb := x_mem 292 rfl rfl
set_option maxRecDepth 20000 in
theorem mw_273 : (Cond.instanceMethod ⟨"java/lang/Throwable", "<init>", "(Ljava/lang/String;)V"⟩ : Cond) ∈ x_tb := x_mem 293 rfl rfl
set_option maxRecDepth 20000 in
theorem mw_274 : (Cond.code ⟨"java/lang/Throwable", "<init>", "(Ljava/lang/String;)V"⟩ prog_21_method_2_code 2 none : Cond) ∈ x_tb := x_mem 294 rfl rfl
set_option maxRecDepth 20000 in
theorem mw_275 : (Cond.fieldLink "java/lang/Throwable" 198 "java/lang/Throwable" "backtrace" "Ljava/lang/Object;" : Cond) ∈ x_tb := x_mem 295 rfl rfl
set_option maxRecDepth 20000 in
theorem mw_276 : (Cond.fieldLink "java/lang/Throwable" 31 "java/lang/Throwable" "detailMessage" "Ljava/lang/String;" : Cond) ∈ x_tb := x_mem 296 rfl rfl
set_option maxRecDepth 20000 in
theorem mw_277 : (Cond.fieldLink "java/lang/Throwable" 7 "java/lang/Throwable" "cause" "Ljava/lang/Throwable;" : Cond) ∈ x_tb := x_mem 297 rfl rfl
set_option maxRecDepth 20000 in
theorem mw_278 : (Cond.fieldLink "java/lang/Throwable" 17 "java/lang/Throwable" "stackTrace" "[Ljava/lang/StackTraceElement;" : Cond) ∈ x_tb := x_mem 298 rfl rfl
set_option maxRecDepth 20000 in
theorem mw_279 : (Cond.fieldLink "java/lang/Throwable" 24 "java/lang/Throwable" "suppressedExceptions" "Ljava/util/List;" : Cond) ∈ x_tb := x_mem 299 rfl rfl
set_option maxRecDepth 20000 in
theorem mw_280 : (Cond.soleField "java/lang/Throwable" "backtrace" : Cond) ∈ x_tb := x_mem 300 rfl rfl
set_option maxRecDepth 20000 in
theorem mw_281 : (Cond.soleField "java/lang/Throwable" "detailMessage" : Cond) ∈ x_tb := x_mem 301 rfl rfl
set_option maxRecDepth 20000 in
theorem mw_282 : (Cond.soleField "java/lang/Throwable" "cause" : Cond) ∈ x_tb := x_mem 302 rfl rfl
set_option maxRecDepth 20000 in
theorem mw_283 : (Cond.soleField "java/lang/Throwable" "stackTrace" : Cond) ∈ x_tb := x_mem 303 rfl rfl
set_option maxRecDepth 20000 in
theorem mw_284 : (Cond.lays "java/lang/IllegalArgumentException" "java/lang/Throwable" "depth" "I" : Cond) ∈ x_tb := x_mem 304 rfl rfl
set_option maxRecDepth 20000 in
theorem mw_285 : (Cond.soleField "java/lang/Throwable" "depth" : Cond) ∈ x_tb := x_mem 305 rfl rfl
set_option maxRecDepth 20000 in
theorem mw_286 : (Cond.soleField "java/lang/Throwable" "suppressedExceptions" : Cond) ∈ x_tb := x_mem 306 rfl rfl
set_option maxRecDepth 20000 in
theorem mw_287 : (Cond.superclass "java/lang/IllegalArgumentException" "java/lang/RuntimeException" : Cond) ∈ x_tb := x_mem 307 rfl rfl
set_option maxRecDepth 20000 in
theorem mw_288 : (Cond.methodLink "BreakingDisk" 63 ⟨"BreakingDisk$Tape", "take", "()LBreakingDisk$Bytes;"⟩ : Cond) ∈ x_tb := x_mem 308 rfl rfl
set_option maxRecDepth 20000 in
theorem mw_289 : (Cond.instanceMethod ⟨"BreakingDisk$Tape", "take", "()LBreakingDisk$Bytes;"⟩ : Cond) ∈ x_tb := x_mem 309 rfl rfl
set_option maxRecDepth 20000 in
theorem mw_290 : (Cond.selects "BreakingDisk$Tape" ⟨"BreakingDisk$Tape", "take", "()LBreakingDisk$Bytes;"⟩ ⟨"BreakingDisk$Tape", "take", "()LBreakingDisk$Bytes;"⟩ : Cond) ∈ x_tb := x_mem 310 rfl rfl
set_option maxRecDepth 20000 in
theorem mw_291 : (Cond.code ⟨"BreakingDisk$Tape", "take", "()LBreakingDisk$Bytes;"⟩ prog_8_method_3_code 2 (some (.object "BreakingDisk$Bytes")) : Cond) ∈ x_tb := x_mem 311 rfl rfl
set_option maxRecDepth 20000 in
theorem mw_292 : (Cond.classLink "BreakingDisk$Tape" 19 "BreakingDisk$Bytes" : Cond) ∈ x_tb := x_mem 312 rfl rfl
set_option maxRecDepth 20000 in
theorem mw_293 : (Cond.methodLink "BreakingDisk$Tape" 21 ⟨"java/util/Arrays", "copyOf", "([BI)[B"⟩ : Cond) ∈ x_tb := x_mem 313 rfl rfl
set_option maxRecDepth 20000 in
theorem mw_294 : (Cond.static ⟨"java/util/Arrays", "copyOf", "([BI)[B"⟩ : Cond) ∈ x_tb := x_mem 314 rfl rfl
set_option maxRecDepth 20000 in
theorem mw_295 : (Cond.code ⟨"java/util/Arrays", "copyOf", "([BI)[B"⟩ prog_22_method_121_code 3 (some (.array .byte)) : Cond) ∈ x_tb := x_mem 315 rfl rfl
set_option maxRecDepth 20000 in
theorem mw_296 : (Cond.methodLink "java/util/Arrays" 310 ⟨"[B", "clone", "()Ljava/lang/Object;"⟩ : Cond) ∈ x_tb := x_mem 316 rfl rfl
set_option maxRecDepth 20000 in
theorem mw_297 : (Cond.sameMethod "[B" "java/lang/Object" "clone" "()Ljava/lang/Object;" : Cond) ∈ x_tb := x_mem 317 rfl rfl
set_option maxRecDepth 20000 in
theorem mw_298 : (Cond.native ⟨"java/lang/Object", "clone", "()Ljava/lang/Object;"⟩ : Cond) ∈ x_tb := x_mem 318 rfl rfl
set_option maxRecDepth 20000 in
theorem mw_299 : (Cond.instanceMethod ⟨"java/lang/Object", "clone", "()Ljava/lang/Object;"⟩ : Cond) ∈ x_tb := x_mem 319 rfl rfl
set_option maxRecDepth 20000 in
theorem mw_300 : (Cond.selects "[B" ⟨"[B", "clone", "()Ljava/lang/Object;"⟩ ⟨"java/lang/Object", "clone", "()Ljava/lang/Object;"⟩ : Cond) ∈ x_tb := x_mem 320 rfl rfl
set_option maxRecDepth 20000 in
theorem ml_301 : (Cond.castable "[B" "java/lang/Cloneable" : Cond) ∈ lw_tbl := List.mem_of_getElem? (i := 321) rfl
set_option maxRecDepth 20000 in
theorem mw_302 : (Cond.classLink "java/util/Arrays" 311 "[B" : Cond) ∈ x_tb := x_mem 322 rfl rfl
set_option maxRecDepth 20000 in
theorem mw_303 : (Cond.methodLink "java/util/Arrays" 304 ⟨"java/lang/Math", "min", "(II)I"⟩ : Cond) ∈ x_tb := x_mem 323 rfl rfl
set_option maxRecDepth 20000 in
theorem mw_304 : (Cond.static ⟨"java/lang/Math", "min", "(II)I"⟩ : Cond) ∈ x_tb := x_mem 324 rfl rfl
set_option maxRecDepth 20000 in
theorem mw_305 : (Cond.code ⟨"java/lang/Math", "min", "(II)I"⟩ prog_17_method_69_code 2 (some .int) : Cond) ∈ x_tb := x_mem 325 rfl rfl
set_option maxRecDepth 20000 in
theorem mw_306 : (Cond.methodLink "java/util/Arrays" 150 ⟨"java/lang/System", "arraycopy", "(Ljava/lang/Object;ILjava/lang/Object;II)V"⟩ : Cond) ∈ x_tb := x_mem 326 rfl rfl
set_option maxRecDepth 20000 in
theorem mw_307 : (Cond.static ⟨"java/lang/System", "arraycopy", "(Ljava/lang/Object;ILjava/lang/Object;II)V"⟩ : Cond) ∈ x_tb := x_mem 327 rfl rfl
set_option maxRecDepth 20000 in
theorem mw_308 : (Cond.native ⟨"java/lang/System", "arraycopy", "(Ljava/lang/Object;ILjava/lang/Object;II)V"⟩ : Cond) ∈ x_tb := x_mem 328 rfl rfl
set_option maxRecDepth 20000 in
theorem mw_309 : (Cond.methodLink "BreakingDisk$Tape" 27 ⟨"BreakingDisk$Bytes", "<init>", "([B)V"⟩ : Cond) ∈ x_tb := x_mem 329 rfl rfl
set_option maxRecDepth 20000 in
theorem mw_310 : (Cond.methodLink "BreakingDiskLaw" 54 ⟨"BreakingDiskLaw", "write", "(LBreakingDisk;II)I"⟩ : Cond) ∈ x_tb := x_mem 330 rfl rfl
set_option maxRecDepth 20000 in
theorem mw_311 : (Cond.static ⟨"BreakingDiskLaw", "write", "(LBreakingDisk;II)I"⟩ : Cond) ∈ x_tb := x_mem 331 rfl rfl
set_option maxRecDepth 20000 in
theorem mw_312 : (Cond.codeWith ⟨"BreakingDiskLaw", "write", "(LBreakingDisk;II)I"⟩ method_4_code 4 (some .int) [(0, 6, 9, 19), (0, 6, 12, 21)] : Cond) ∈ x_tb := x_mem 332 rfl rfl
set_option maxRecDepth 20000 in
theorem mw_313 : (Cond.classLink "BreakingDiskLaw" 19 "java/lang/IndexOutOfBoundsException" : Cond) ∈ x_tb := x_mem 333 rfl rfl
set_option maxRecDepth 20000 in
theorem mw_314 : (Cond.classLink "BreakingDiskLaw" 21 "java/lang/IllegalStateException" : Cond) ∈ x_tb := x_mem 334 rfl rfl
set_option maxRecDepth 20000 in
theorem mw_315 : (Cond.methodLink "BreakingDiskLaw" 15 ⟨"BreakingDisk", "write", "(II)V"⟩ : Cond) ∈ x_tb := x_mem 335 rfl rfl
set_option maxRecDepth 20000 in
theorem mw_316 : (Cond.instanceMethod ⟨"BreakingDisk", "write", "(II)V"⟩ : Cond) ∈ x_tb := x_mem 336 rfl rfl
set_option maxRecDepth 20000 in
theorem mw_317 : (Cond.selects "BreakingDisk" ⟨"BreakingDisk", "write", "(II)V"⟩ ⟨"BreakingDisk", "write", "(II)V"⟩ : Cond) ∈ x_tb := x_mem 337 rfl rfl
set_option maxRecDepth 20000 in
theorem mw_318 : (Cond.code ⟨"BreakingDisk", "write", "(II)V"⟩ prog_1_method_4_code 4 none : Cond) ∈ x_tb := x_mem 338 rfl rfl
set_option maxRecDepth 20000 in
theorem mw_319 : (Cond.methodLink "BreakingDisk" 70 ⟨"BreakingDisk", "refuseWrongName", "(II)V"⟩ : Cond) ∈ x_tb := x_mem 339 rfl rfl
set_option maxRecDepth 20000 in
theorem mw_320 : (Cond.static ⟨"BreakingDisk", "refuseWrongName", "(II)V"⟩ : Cond) ∈ x_tb := x_mem 340 rfl rfl
set_option maxRecDepth 20000 in
theorem mw_321 : (Cond.code ⟨"BreakingDisk", "refuseWrongName", "(II)V"⟩ prog_1_method_15_code 2 none : Cond) ∈ x_tb := x_mem 341 rfl rfl
set_option maxRecDepth 20000 in
theorem mw_322 : (Cond.classLink "BreakingDisk" 167 "java/lang/IndexOutOfBoundsException" : Cond) ∈ x_tb := x_mem 342 rfl rfl
set_option maxRecDepth 20000 in
theorem mw_323 : (Cond.instantiable "java/lang/IndexOutOfBoundsException" 6 : Cond) ∈ x_tb := x_mem 343 rfl rfl
set_option maxRecDepth 20000 in
theorem ml_324 : (Cond.castable "java/lang/IndexOutOfBoundsException" "java/lang/IndexOutOfBoundsException" : Cond) ∈ lw_tbl := List.mem_of_getElem? (i := 344) rfl
set_option maxRecDepth 20000 in
theorem mw_325 : (Cond.selects "java/lang/IndexOutOfBoundsException" ⟨"java/lang/Throwable", "fillInStackTrace", "(I)Ljava/lang/Throwable;"⟩ ⟨"java/lang/Throwable", "fillInStackTrace", "(I)Ljava/lang/Throwable;"⟩ : Cond) ∈ x_tb := x_mem 345 rfl rfl
set_option maxRecDepth 20000 in
theorem mw_326 : (Cond.lays "java/lang/IndexOutOfBoundsException" "java/lang/Throwable" "cause" "Ljava/lang/Throwable;" : Cond) ∈ x_tb := x_mem 346 rfl rfl
set_option maxRecDepth 20000 in
theorem mw_327 : (Cond.lays "java/lang/IndexOutOfBoundsException" "java/lang/Throwable" "stackTrace" "[Ljava/lang/StackTraceElement;" : Cond) ∈ x_tb := x_mem 347 rfl rfl
set_option maxRecDepth 20000 in
theorem mw_328 : (Cond.lays "java/lang/IndexOutOfBoundsException" "java/lang/Throwable" "suppressedExceptions" "Ljava/util/List;" : Cond) ∈ x_tb := x_mem 348 rfl rfl
set_option maxRecDepth 20000 in
theorem mw_329 : (Cond.lays "java/lang/IndexOutOfBoundsException" "java/lang/Throwable" "detailMessage" "Ljava/lang/String;" : Cond) ∈ x_tb := x_mem 349 rfl rfl
set_option maxRecDepth 20000 in
theorem mw_330 : (Cond.lays "java/lang/IndexOutOfBoundsException" "java/lang/Throwable" "backtrace" "Ljava/lang/Object;" : Cond) ∈ x_tb := x_mem 350 rfl rfl
set_option maxRecDepth 20000 in
theorem ml_331 : (Cond.stringRef "BreakingDisk" 169 "no such SORT or TIME" : Cond) ∈ lw_tbl := List.mem_of_getElem? (i := 351) rfl
set_option maxRecDepth 20000 in
theorem mw_332 : (Cond.methodLink "BreakingDisk" 171 ⟨"java/lang/IndexOutOfBoundsException", "<init>", "(Ljava/lang/String;)V"⟩ : Cond) ∈ x_tb := x_mem 352 rfl rfl
set_option maxRecDepth 20000 in
theorem mw_333 : (Cond.instanceMethod ⟨"java/lang/IndexOutOfBoundsException", "<init>", "(Ljava/lang/String;)V"⟩ : Cond) ∈ x_tb := x_mem 353 rfl rfl
set_option maxRecDepth 20000 in
theorem mw_334 : (Cond.code ⟨"java/lang/IndexOutOfBoundsException", "<init>", "(Ljava/lang/String;)V"⟩ prog_15_method_2_code 2 none : Cond) ∈ x_tb := x_mem 354 rfl rfl
set_option maxRecDepth 20000 in
theorem mw_335 : (Cond.methodLink "java/lang/IndexOutOfBoundsException" 7 ⟨"java/lang/RuntimeException", "<init>", "(Ljava/lang/String;)V"⟩ : Cond) ∈ x_tb := x_mem 355 rfl rfl
set_option maxRecDepth 20000 in
theorem mw_336 : (Cond.lays "java/lang/IndexOutOfBoundsException" "java/lang/Throwable" "depth" "I" : Cond) ∈ x_tb := x_mem 356 rfl rfl
set_option maxRecDepth 20000 in
theorem mw_337 : (Cond.superclass "java/lang/IndexOutOfBoundsException" "java/lang/RuntimeException" : Cond) ∈ x_tb := x_mem 357 rfl rfl
set_option maxRecDepth 20000 in
theorem mw_338 : (Cond.methodLink "BreakingDisk" 78 ⟨"BreakingDisk$Files", "isFull", "()Z"⟩ : Cond) ∈ x_tb := x_mem 358 rfl rfl
set_option maxRecDepth 20000 in
theorem mw_339 : (Cond.instanceMethod ⟨"BreakingDisk$Files", "isFull", "()Z"⟩ : Cond) ∈ x_tb := x_mem 359 rfl rfl
set_option maxRecDepth 20000 in
theorem mw_340 : (Cond.selects "BreakingDisk$Files" ⟨"BreakingDisk$Files", "isFull", "()Z"⟩ ⟨"BreakingDisk$Files", "isFull", "()Z"⟩ : Cond) ∈ x_tb := x_mem 360 rfl rfl
set_option maxRecDepth 20000 in
theorem mw_341 : (Cond.code ⟨"BreakingDisk$Files", "isFull", "()Z"⟩ prog_3_method_2_code 1 (some .boolean) : Cond) ∈ x_tb := x_mem 361 rfl rfl
set_option maxRecDepth 20000 in
theorem mw_342 : (Cond.classLink "BreakingDisk" 86 "java/lang/IllegalStateException" : Cond) ∈ x_tb := x_mem 362 rfl rfl
set_option maxRecDepth 20000 in
theorem mw_343 : (Cond.instantiable "java/lang/IllegalStateException" 6 : Cond) ∈ x_tb := x_mem 363 rfl rfl
set_option maxRecDepth 20000 in
theorem ml_344 : (Cond.castable "java/lang/IllegalStateException" "java/lang/IllegalStateException" : Cond) ∈ lw_tbl := List.mem_of_getElem? (i := 364) rfl
set_option maxRecDepth 20000 in
theorem mw_345 : (Cond.selects "java/lang/IllegalStateException" ⟨"java/lang/Throwable", "fillInStackTrace", "(I)Ljava/lang/Throwable;"⟩ ⟨"java/lang/Throwable", "fillInStackTrace", "(I)Ljava/lang/Throwable;"⟩ : Cond) ∈ x_tb := x_mem 365 rfl rfl
set_option maxRecDepth 20000 in
theorem mw_346 : (Cond.lays "java/lang/IllegalStateException" "java/lang/Throwable" "cause" "Ljava/lang/Throwable;" : Cond) ∈ x_tb := x_mem 366 rfl rfl
set_option maxRecDepth 20000 in
theorem mw_347 : (Cond.lays "java/lang/IllegalStateException" "java/lang/Throwable" "stackTrace" "[Ljava/lang/StackTraceElement;" : Cond) ∈ x_tb := x_mem 367 rfl rfl
set_option maxRecDepth 20000 in
theorem mw_348 : (Cond.lays "java/lang/IllegalStateException" "java/lang/Throwable" "suppressedExceptions" "Ljava/util/List;" : Cond) ∈ x_tb := x_mem 368 rfl rfl
set_option maxRecDepth 20000 in
theorem mw_349 : (Cond.lays "java/lang/IllegalStateException" "java/lang/Throwable" "detailMessage" "Ljava/lang/String;" : Cond) ∈ x_tb := x_mem 369 rfl rfl
set_option maxRecDepth 20000 in
theorem mw_350 : (Cond.lays "java/lang/IllegalStateException" "java/lang/Throwable" "backtrace" "Ljava/lang/Object;" : Cond) ∈ x_tb := x_mem 370 rfl rfl
set_option maxRecDepth 20000 in
theorem ml_351 : (Cond.stringRef "BreakingDisk" 88 "there are 60 files" : Cond) ∈ lw_tbl := List.mem_of_getElem? (i := 371) rfl
set_option maxRecDepth 20000 in
theorem mw_352 : (Cond.methodLink "BreakingDisk" 90 ⟨"java/lang/IllegalStateException", "<init>", "(Ljava/lang/String;)V"⟩ : Cond) ∈ x_tb := x_mem 372 rfl rfl
set_option maxRecDepth 20000 in
theorem mw_353 : (Cond.instanceMethod ⟨"java/lang/IllegalStateException", "<init>", "(Ljava/lang/String;)V"⟩ : Cond) ∈ x_tb := x_mem 373 rfl rfl
set_option maxRecDepth 20000 in
theorem mw_354 : (Cond.code ⟨"java/lang/IllegalStateException", "<init>", "(Ljava/lang/String;)V"⟩ prog_14_method_2_code 2 none : Cond) ∈ x_tb := x_mem 374 rfl rfl
set_option maxRecDepth 20000 in
theorem mw_355 : (Cond.methodLink "java/lang/IllegalStateException" 7 ⟨"java/lang/RuntimeException", "<init>", "(Ljava/lang/String;)V"⟩ : Cond) ∈ x_tb := x_mem 375 rfl rfl
set_option maxRecDepth 20000 in
theorem mw_356 : (Cond.lays "java/lang/IllegalStateException" "java/lang/Throwable" "depth" "I" : Cond) ∈ x_tb := x_mem 376 rfl rfl
set_option maxRecDepth 20000 in
theorem mw_357 : (Cond.superclass "java/lang/IllegalStateException" "java/lang/RuntimeException" : Cond) ∈ x_tb := x_mem 377 rfl rfl
set_option maxRecDepth 20000 in
theorem mw_358 : (Cond.methodLink "BreakingDisk" 91 ⟨"BreakingDisk", "refuseFullJournal", "()V"⟩ : Cond) ∈ x_tb := x_mem 378 rfl rfl
set_option maxRecDepth 20000 in
theorem ml_359 : (Cond.privateMethod ⟨"BreakingDisk", "refuseFullJournal", "()V"⟩ : Cond) ∈ lw_tbl := List.mem_of_getElem? (i := 379) rfl
set_option maxRecDepth 20000 in
theorem mw_360 : (Cond.instanceMethod ⟨"BreakingDisk", "refuseFullJournal", "()V"⟩ : Cond) ∈ x_tb := x_mem 380 rfl rfl
set_option maxRecDepth 20000 in
theorem mw_361 : (Cond.code ⟨"BreakingDisk", "refuseFullJournal", "()V"⟩ prog_1_method_16_code 1 none : Cond) ∈ x_tb := x_mem 381 rfl rfl
set_option maxRecDepth 20000 in
theorem mw_362 : (Cond.methodLink "BreakingDisk" 172 ⟨"BreakingDisk$Journal", "isFull", "()Z"⟩ : Cond) ∈ x_tb := x_mem 382 rfl rfl
set_option maxRecDepth 20000 in
theorem mw_363 : (Cond.instanceMethod ⟨"BreakingDisk$Journal", "isFull", "()Z"⟩ : Cond) ∈ x_tb := x_mem 383 rfl rfl
set_option maxRecDepth 20000 in
theorem mw_364 : (Cond.selects "BreakingDisk$Journal" ⟨"BreakingDisk$Journal", "isFull", "()Z"⟩ ⟨"BreakingDisk$Journal", "isFull", "()Z"⟩ : Cond) ∈ x_tb := x_mem 384 rfl rfl
set_option maxRecDepth 20000 in
theorem mw_365 : (Cond.code ⟨"BreakingDisk$Journal", "isFull", "()Z"⟩ prog_4_method_2_code 1 (some .boolean) : Cond) ∈ x_tb := x_mem 385 rfl rfl
set_option maxRecDepth 20000 in
theorem ml_366 : (Cond.stringRef "BreakingDisk" 173 "200 operations were done since the latest SYNC" : Cond) ∈ lw_tbl := List.mem_of_getElem? (i := 386) rfl
set_option maxRecDepth 20000 in
theorem mw_367 : (Cond.classLink "BreakingDisk" 94 "BreakingDisk$Operation" : Cond) ∈ x_tb := x_mem 387 rfl rfl
set_option maxRecDepth 20000 in
theorem mw_368 : (Cond.instantiable "BreakingDisk$Operation" 2 : Cond) ∈ x_tb := x_mem 388 rfl rfl
set_option maxRecDepth 20000 in
theorem mw_369 : (Cond.classLink "BreakingDisk" 96 "BreakingDisk$StoredFile" : Cond) ∈ x_tb := x_mem 389 rfl rfl
set_option maxRecDepth 20000 in
theorem mw_370 : (Cond.instantiable "BreakingDisk$StoredFile" 2 : Cond) ∈ x_tb := x_mem 390 rfl rfl
set_option maxRecDepth 20000 in
theorem mw_371 : (Cond.methodLink "BreakingDisk" 98 ⟨"BreakingDisk$StoredFile", "<init>", "(LBreakingDisk$Name;LBreakingDisk$Bytes;)V"⟩ : Cond) ∈ x_tb := x_mem 391 rfl rfl
set_option maxRecDepth 20000 in
theorem mw_372 : (Cond.instanceMethod ⟨"BreakingDisk$StoredFile", "<init>", "(LBreakingDisk$Name;LBreakingDisk$Bytes;)V"⟩ : Cond) ∈ x_tb := x_mem 392 rfl rfl
set_option maxRecDepth 20000 in
theorem mw_373 : (Cond.code ⟨"BreakingDisk$StoredFile", "<init>", "(LBreakingDisk$Name;LBreakingDisk$Bytes;)V"⟩ prog_7_method_1_code 3 none : Cond) ∈ x_tb := x_mem 393 rfl rfl
set_option maxRecDepth 20000 in
theorem mw_374 : (Cond.methodLink "BreakingDisk$StoredFile" 1 ⟨"java/lang/Object", "<init>", "()V"⟩ : Cond) ∈ x_tb := x_mem 394 rfl rfl
set_option maxRecDepth 20000 in
theorem mw_375 : (Cond.fieldLink "BreakingDisk$StoredFile" 7 "BreakingDisk$StoredFile" "name" "LBreakingDisk$Name;" : Cond) ∈ x_tb := x_mem 395 rfl rfl
set_option maxRecDepth 20000 in
theorem ml_376 : (Cond.fieldLinkNest "BreakingDisk$Files" 29 "BreakingDisk$StoredFile" "name" "LBreakingDisk$Name;" "BreakingDisk" : Cond) ∈ lw_tbl := List.mem_of_getElem? (i := 396) rfl
set_option maxRecDepth 20000 in
theorem ml_377 : (Cond.fieldLinkNest "BreakingDisk" 112 "BreakingDisk$StoredFile" "name" "LBreakingDisk$Name;" "BreakingDisk" : Cond) ∈ lw_tbl := List.mem_of_getElem? (i := 397) rfl
set_option maxRecDepth 20000 in
theorem mw_378 : (Cond.fieldLink "BreakingDisk$StoredFile" 13 "BreakingDisk$StoredFile" "content" "LBreakingDisk$Bytes;" : Cond) ∈ x_tb := x_mem 398 rfl rfl
set_option maxRecDepth 20000 in
theorem ml_379 : (Cond.fieldLinkNest "BreakingDisk" 116 "BreakingDisk$StoredFile" "content" "LBreakingDisk$Bytes;" "BreakingDisk" : Cond) ∈ lw_tbl := List.mem_of_getElem? (i := 399) rfl
set_option maxRecDepth 20000 in
theorem mw_380 : (Cond.laysFinal "BreakingDisk$StoredFile" "BreakingDisk$StoredFile" "name" "LBreakingDisk$Name;" : Cond) ∈ x_tb := x_mem 400 rfl rfl
set_option maxRecDepth 20000 in
theorem mw_381 : (Cond.soleField "BreakingDisk$StoredFile" "name" : Cond) ∈ x_tb := x_mem 401 rfl rfl
set_option maxRecDepth 20000 in
theorem mw_382 : (Cond.laysFinal "BreakingDisk$StoredFile" "BreakingDisk$StoredFile" "content" "LBreakingDisk$Bytes;" : Cond) ∈ x_tb := x_mem 402 rfl rfl
set_option maxRecDepth 20000 in
theorem mw_383 : (Cond.soleField "BreakingDisk$StoredFile" "content" : Cond) ∈ x_tb := x_mem 403 rfl rfl
set_option maxRecDepth 20000 in
theorem mw_384 : (Cond.superclass "BreakingDisk$StoredFile" "java/lang/Object" : Cond) ∈ x_tb := x_mem 404 rfl rfl
set_option maxRecDepth 20000 in
theorem mw_385 : (Cond.methodLink "BreakingDisk" 101 ⟨"BreakingDisk$Operation", "<init>", "(LBreakingDisk$Name;LBreakingDisk$StoredFile;)V"⟩ : Cond) ∈ x_tb := x_mem 405 rfl rfl
set_option maxRecDepth 20000 in
theorem mw_386 : (Cond.instanceMethod ⟨"BreakingDisk$Operation", "<init>", "(LBreakingDisk$Name;LBreakingDisk$StoredFile;)V"⟩ : Cond) ∈ x_tb := x_mem 406 rfl rfl
set_option maxRecDepth 20000 in
theorem mw_387 : (Cond.code ⟨"BreakingDisk$Operation", "<init>", "(LBreakingDisk$Name;LBreakingDisk$StoredFile;)V"⟩ prog_6_method_1_code 3 none : Cond) ∈ x_tb := x_mem 407 rfl rfl
set_option maxRecDepth 20000 in
theorem mw_388 : (Cond.methodLink "BreakingDisk$Operation" 1 ⟨"java/lang/Object", "<init>", "()V"⟩ : Cond) ∈ x_tb := x_mem 408 rfl rfl
set_option maxRecDepth 20000 in
theorem mw_389 : (Cond.fieldLink "BreakingDisk$Operation" 7 "BreakingDisk$Operation" "goes" "LBreakingDisk$Name;" : Cond) ∈ x_tb := x_mem 409 rfl rfl
set_option maxRecDepth 20000 in
theorem ml_390 : (Cond.fieldLinkNest "BreakingDisk$Files" 38 "BreakingDisk$Operation" "goes" "LBreakingDisk$Name;" "BreakingDisk" : Cond) ∈ lw_tbl := List.mem_of_getElem? (i := 410) rfl
set_option maxRecDepth 20000 in
theorem mw_391 : (Cond.fieldLink "BreakingDisk$Operation" 13 "BreakingDisk$Operation" "comes" "LBreakingDisk$StoredFile;" : Cond) ∈ x_tb := x_mem 411 rfl rfl
set_option maxRecDepth 20000 in
theorem ml_392 : (Cond.fieldLinkNest "BreakingDisk$Files" 47 "BreakingDisk$Operation" "comes" "LBreakingDisk$StoredFile;" "BreakingDisk" : Cond) ∈ lw_tbl := List.mem_of_getElem? (i := 412) rfl
set_option maxRecDepth 20000 in
theorem mw_393 : (Cond.laysFinal "BreakingDisk$Operation" "BreakingDisk$Operation" "goes" "LBreakingDisk$Name;" : Cond) ∈ x_tb := x_mem 413 rfl rfl
set_option maxRecDepth 20000 in
theorem mw_394 : (Cond.soleField "BreakingDisk$Operation" "goes" : Cond) ∈ x_tb := x_mem 414 rfl rfl
set_option maxRecDepth 20000 in
theorem mw_395 : (Cond.laysFinal "BreakingDisk$Operation" "BreakingDisk$Operation" "comes" "LBreakingDisk$StoredFile;" : Cond) ∈ x_tb := x_mem 415 rfl rfl
set_option maxRecDepth 20000 in
theorem mw_396 : (Cond.soleField "BreakingDisk$Operation" "comes" : Cond) ∈ x_tb := x_mem 416 rfl rfl
set_option maxRecDepth 20000 in
theorem mw_397 : (Cond.superclass "BreakingDisk$Operation" "java/lang/Object" : Cond) ∈ x_tb := x_mem 417 rfl rfl
set_option maxRecDepth 20000 in
theorem mw_398 : (Cond.methodLink "BreakingDisk" 104 ⟨"BreakingDisk", "perform", "(LBreakingDisk$Operation;)V"⟩ : Cond) ∈ x_tb := x_mem 418 rfl rfl
set_option maxRecDepth 20000 in
theorem ml_399 : (Cond.privateMethod ⟨"BreakingDisk", "perform", "(LBreakingDisk$Operation;)V"⟩ : Cond) ∈ lw_tbl := List.mem_of_getElem? (i := 419) rfl
set_option maxRecDepth 20000 in
theorem mw_400 : (Cond.instanceMethod ⟨"BreakingDisk", "perform", "(LBreakingDisk$Operation;)V"⟩ : Cond) ∈ x_tb := x_mem 420 rfl rfl
set_option maxRecDepth 20000 in
theorem mw_401 : (Cond.code ⟨"BreakingDisk", "perform", "(LBreakingDisk$Operation;)V"⟩ prog_1_method_19_code 2 none : Cond) ∈ x_tb := x_mem 421 rfl rfl
set_option maxRecDepth 20000 in
theorem mw_402 : (Cond.methodLink "BreakingDisk" 180 ⟨"BreakingDisk$Files", "apply", "(LBreakingDisk$Operation;)V"⟩ : Cond) ∈ x_tb := x_mem 422 rfl rfl
set_option maxRecDepth 20000 in
theorem mw_403 : (Cond.instanceMethod ⟨"BreakingDisk$Files", "apply", "(LBreakingDisk$Operation;)V"⟩ : Cond) ∈ x_tb := x_mem 423 rfl rfl
set_option maxRecDepth 20000 in
theorem mw_404 : (Cond.selects "BreakingDisk$Files" ⟨"BreakingDisk$Files", "apply", "(LBreakingDisk$Operation;)V"⟩ ⟨"BreakingDisk$Files", "apply", "(LBreakingDisk$Operation;)V"⟩ : Cond) ∈ x_tb := x_mem 424 rfl rfl
set_option maxRecDepth 20000 in
theorem mw_405 : (Cond.code ⟨"BreakingDisk$Files", "apply", "(LBreakingDisk$Operation;)V"⟩ prog_3_method_6_code 2 none : Cond) ∈ x_tb := x_mem 425 rfl rfl
set_option maxRecDepth 20000 in
theorem mw_406 : (Cond.methodLink "BreakingDisk$Files" 43 ⟨"BreakingDisk$Files", "remove", "(LBreakingDisk$Name;)V"⟩ : Cond) ∈ x_tb := x_mem 426 rfl rfl
set_option maxRecDepth 20000 in
theorem ml_407 : (Cond.privateMethod ⟨"BreakingDisk$Files", "remove", "(LBreakingDisk$Name;)V"⟩ : Cond) ∈ lw_tbl := List.mem_of_getElem? (i := 427) rfl
set_option maxRecDepth 20000 in
theorem mw_408 : (Cond.instanceMethod ⟨"BreakingDisk$Files", "remove", "(LBreakingDisk$Name;)V"⟩ : Cond) ∈ x_tb := x_mem 428 rfl rfl
set_option maxRecDepth 20000 in
theorem mw_409 : (Cond.code ⟨"BreakingDisk$Files", "remove", "(LBreakingDisk$Name;)V"⟩ prog_3_method_10_code 4 none : Cond) ∈ x_tb := x_mem 429 rfl rfl
set_option maxRecDepth 20000 in
theorem mw_410 : (Cond.methodLink "BreakingDisk$Files" 51 ⟨"BreakingDisk$Files", "insert", "(LBreakingDisk$StoredFile;)V"⟩ : Cond) ∈ x_tb := x_mem 430 rfl rfl
set_option maxRecDepth 20000 in
theorem ml_411 : (Cond.privateMethod ⟨"BreakingDisk$Files", "insert", "(LBreakingDisk$StoredFile;)V"⟩ : Cond) ∈ lw_tbl := List.mem_of_getElem? (i := 431) rfl
set_option maxRecDepth 20000 in
theorem mw_412 : (Cond.instanceMethod ⟨"BreakingDisk$Files", "insert", "(LBreakingDisk$StoredFile;)V"⟩ : Cond) ∈ x_tb := x_mem 432 rfl rfl
set_option maxRecDepth 20000 in
theorem mw_413 : (Cond.code ⟨"BreakingDisk$Files", "insert", "(LBreakingDisk$StoredFile;)V"⟩ prog_3_method_11_code 3 none : Cond) ∈ x_tb := x_mem 433 rfl rfl
set_option maxRecDepth 20000 in
theorem mw_414 : (Cond.methodLink "BreakingDisk$Files" 58 ⟨"BreakingDisk$Files", "isFull", "()Z"⟩ : Cond) ∈ x_tb := x_mem 434 rfl rfl
set_option maxRecDepth 20000 in
theorem mw_415 : (Cond.methodLink "BreakingDisk" 183 ⟨"BreakingDisk$Journal", "append", "(LBreakingDisk$Operation;)V"⟩ : Cond) ∈ x_tb := x_mem 435 rfl rfl
set_option maxRecDepth 20000 in
theorem mw_416 : (Cond.instanceMethod ⟨"BreakingDisk$Journal", "append", "(LBreakingDisk$Operation;)V"⟩ : Cond) ∈ x_tb := x_mem 436 rfl rfl
set_option maxRecDepth 20000 in
theorem mw_417 : (Cond.selects "BreakingDisk$Journal" ⟨"BreakingDisk$Journal", "append", "(LBreakingDisk$Operation;)V"⟩ ⟨"BreakingDisk$Journal", "append", "(LBreakingDisk$Operation;)V"⟩ : Cond) ∈ x_tb := x_mem 437 rfl rfl
set_option maxRecDepth 20000 in
theorem mw_418 : (Cond.code ⟨"BreakingDisk$Journal", "append", "(LBreakingDisk$Operation;)V"⟩ prog_4_method_3_code 2 none : Cond) ∈ x_tb := x_mem 438 rfl rfl
set_option maxRecDepth 20000 in
theorem mw_419 : (Cond.methodLink "BreakingDiskLaw" 58 ⟨"BreakingDiskLaw", "rename", "(LBreakingDisk;IIII)I"⟩ : Cond) ∈ x_tb := x_mem 439 rfl rfl
set_option maxRecDepth 20000 in
theorem mw_420 : (Cond.static ⟨"BreakingDiskLaw", "rename", "(LBreakingDisk;IIII)I"⟩ : Cond) ∈ x_tb := x_mem 440 rfl rfl
set_option maxRecDepth 20000 in
theorem mw_421 : (Cond.codeWith ⟨"BreakingDiskLaw", "rename", "(LBreakingDisk;IIII)I"⟩ method_5_code 6 (some .int) [(0, 9, 12, 19), (0, 9, 16, 13), (0, 9, 20, 21)] : Cond) ∈ x_tb := x_mem 441 rfl rfl
set_option maxRecDepth 20000 in
theorem mw_422 : (Cond.methodLink "BreakingDiskLaw" 23 ⟨"BreakingDisk", "rename", "(IIII)V"⟩ : Cond) ∈ x_tb := x_mem 442 rfl rfl
set_option maxRecDepth 20000 in
theorem mw_423 : (Cond.instanceMethod ⟨"BreakingDisk", "rename", "(IIII)V"⟩ : Cond) ∈ x_tb := x_mem 443 rfl rfl
set_option maxRecDepth 20000 in
theorem mw_424 : (Cond.selects "BreakingDisk" ⟨"BreakingDisk", "rename", "(IIII)V"⟩ ⟨"BreakingDisk", "rename", "(IIII)V"⟩ : Cond) ∈ x_tb := x_mem 444 rfl rfl
set_option maxRecDepth 20000 in
theorem mw_425 : (Cond.code ⟨"BreakingDisk", "rename", "(IIII)V"⟩ prog_1_method_5_code 6 none : Cond) ∈ x_tb := x_mem 445 rfl rfl
set_option maxRecDepth 20000 in
theorem mw_426 : (Cond.methodLink "BreakingDisk" 108 ⟨"BreakingDisk", "fileToChange", "(II)LBreakingDisk$StoredFile;"⟩ : Cond) ∈ x_tb := x_mem 446 rfl rfl
set_option maxRecDepth 20000 in
theorem ml_427 : (Cond.privateMethod ⟨"BreakingDisk", "fileToChange", "(II)LBreakingDisk$StoredFile;"⟩ : Cond) ∈ lw_tbl := List.mem_of_getElem? (i := 447) rfl
set_option maxRecDepth 20000 in
theorem mw_428 : (Cond.instanceMethod ⟨"BreakingDisk", "fileToChange", "(II)LBreakingDisk$StoredFile;"⟩ : Cond) ∈ x_tb := x_mem 448 rfl rfl
set_option maxRecDepth 20000 in
theorem mw_429 : (Cond.code ⟨"BreakingDisk", "fileToChange", "(II)LBreakingDisk$StoredFile;"⟩ prog_1_method_17_code 4 (some (.object "BreakingDisk$StoredFile")) : Cond) ∈ x_tb := x_mem 449 rfl rfl
set_option maxRecDepth 20000 in
theorem ml_430 : (Cond.stringRef "BreakingDisk" 175 "there is no such file" : Cond) ∈ lw_tbl := List.mem_of_getElem? (i := 450) rfl
set_option maxRecDepth 20000 in
theorem mw_431 : (Cond.methodLink "BreakingDiskLaw" 62 ⟨"BreakingDiskLaw", "delete", "(LBreakingDisk;II)I"⟩ : Cond) ∈ x_tb := x_mem 451 rfl rfl
set_option maxRecDepth 20000 in
theorem mw_432 : (Cond.static ⟨"BreakingDiskLaw", "delete", "(LBreakingDisk;II)I"⟩ : Cond) ∈ x_tb := x_mem 452 rfl rfl
set_option maxRecDepth 20000 in
theorem mw_433 : (Cond.codeWith ⟨"BreakingDiskLaw", "delete", "(LBreakingDisk;II)I"⟩ method_6_code 4 (some .int) [(0, 6, 9, 19), (0, 6, 12, 13), (0, 6, 15, 21)] : Cond) ∈ x_tb := x_mem 453 rfl rfl
set_option maxRecDepth 20000 in
theorem mw_434 : (Cond.methodLink "BreakingDiskLaw" 27 ⟨"BreakingDisk", "delete", "(II)V"⟩ : Cond) ∈ x_tb := x_mem 454 rfl rfl
set_option maxRecDepth 20000 in
theorem mw_435 : (Cond.instanceMethod ⟨"BreakingDisk", "delete", "(II)V"⟩ : Cond) ∈ x_tb := x_mem 455 rfl rfl
set_option maxRecDepth 20000 in
theorem mw_436 : (Cond.selects "BreakingDisk" ⟨"BreakingDisk", "delete", "(II)V"⟩ ⟨"BreakingDisk", "delete", "(II)V"⟩ : Cond) ∈ x_tb := x_mem 456 rfl rfl
set_option maxRecDepth 20000 in
theorem mw_437 : (Cond.code ⟨"BreakingDisk", "delete", "(II)V"⟩ prog_1_method_6_code 4 none : Cond) ∈ x_tb := x_mem 457 rfl rfl
set_option maxRecDepth 20000 in
theorem mw_438 : (Cond.methodLink "BreakingDiskLaw" 69 ⟨"BreakingDiskLaw", "breakOff", "(LBreakingDisk;I[J)I"⟩ : Cond) ∈ x_tb := x_mem 458 rfl rfl
set_option maxRecDepth 20000 in
theorem mw_439 : (Cond.static ⟨"BreakingDiskLaw", "breakOff", "(LBreakingDisk;I[J)I"⟩ : Cond) ∈ x_tb := x_mem 459 rfl rfl
set_option maxRecDepth 20000 in
theorem mw_440 : (Cond.codeWith ⟨"BreakingDiskLaw", "breakOff", "(LBreakingDisk;I[J)I"⟩ method_7_code 4 (some .int) [(0, 9, 12, 13)] : Cond) ∈ x_tb := x_mem 460 rfl rfl
set_option maxRecDepth 20000 in
theorem mw_441 : (Cond.methodLink "BreakingDiskLaw" 30 ⟨"BreakingDisk", "breakOff", "(I)I"⟩ : Cond) ∈ x_tb := x_mem 461 rfl rfl
set_option maxRecDepth 20000 in
theorem mw_442 : (Cond.instanceMethod ⟨"BreakingDisk", "breakOff", "(I)I"⟩ : Cond) ∈ x_tb := x_mem 462 rfl rfl
set_option maxRecDepth 20000 in
theorem mw_443 : (Cond.selects "BreakingDisk" ⟨"BreakingDisk", "breakOff", "(I)I"⟩ ⟨"BreakingDisk", "breakOff", "(I)I"⟩ : Cond) ∈ x_tb := x_mem 463 rfl rfl
set_option maxRecDepth 20000 in
theorem mw_444 : (Cond.code ⟨"BreakingDisk", "breakOff", "(I)I"⟩ prog_1_method_8_code 3 (some .int) : Cond) ∈ x_tb := x_mem 464 rfl rfl
set_option maxRecDepth 20000 in
theorem ml_445 : (Cond.stringRef "BreakingDisk" 127 "n is below 0" : Cond) ∈ lw_tbl := List.mem_of_getElem? (i := 465) rfl
set_option maxRecDepth 20000 in
theorem mw_446 : (Cond.methodLink "BreakingDisk" 129 ⟨"java/lang/Math", "min", "(II)I"⟩ : Cond) ∈ x_tb := x_mem 466 rfl rfl
set_option maxRecDepth 20000 in
theorem mw_447 : (Cond.methodLink "BreakingDisk" 135 ⟨"BreakingDisk$Journal", "replayFirst", "(ILBreakingDisk$Files;)V"⟩ : Cond) ∈ x_tb := x_mem 467 rfl rfl
set_option maxRecDepth 20000 in
theorem mw_448 : (Cond.instanceMethod ⟨"BreakingDisk$Journal", "replayFirst", "(ILBreakingDisk$Files;)V"⟩ : Cond) ∈ x_tb := x_mem 468 rfl rfl
set_option maxRecDepth 20000 in
theorem mw_449 : (Cond.selects "BreakingDisk$Journal" ⟨"BreakingDisk$Journal", "replayFirst", "(ILBreakingDisk$Files;)V"⟩ ⟨"BreakingDisk$Journal", "replayFirst", "(ILBreakingDisk$Files;)V"⟩ : Cond) ∈ x_tb := x_mem 469 rfl rfl
set_option maxRecDepth 20000 in
theorem mw_450 : (Cond.code ⟨"BreakingDisk$Journal", "replayFirst", "(ILBreakingDisk$Files;)V"⟩ prog_4_method_4_code 5 none : Cond) ∈ x_tb := x_mem 470 rfl rfl
set_option maxRecDepth 20000 in
theorem mw_451 : (Cond.methodLink "BreakingDisk$Journal" 21 ⟨"java/lang/Math", "min", "(II)I"⟩ : Cond) ∈ x_tb := x_mem 471 rfl rfl
set_option maxRecDepth 20000 in
theorem mw_452 : (Cond.methodLink "BreakingDisk$Journal" 27 ⟨"BreakingDisk$Files", "apply", "(LBreakingDisk$Operation;)V"⟩ : Cond) ∈ x_tb := x_mem 472 rfl rfl
set_option maxRecDepth 20000 in
theorem mw_453 : (Cond.classLink "BreakingDiskLaw" 35 "BreakingDiskModel" : Cond) ∈ x_tb := x_mem 473 rfl rfl
set_option maxRecDepth 20000 in
theorem mw_454 : (Cond.instantiable "BreakingDiskModel" 23 : Cond) ∈ x_tb := x_mem 474 rfl rfl
set_option maxRecDepth 20000 in
theorem mw_455 : (Cond.methodLink "BreakingDiskLaw" 37 ⟨"BreakingDiskModel", "<init>", "()V"⟩ : Cond) ∈ x_tb := x_mem 475 rfl rfl
set_option maxRecDepth 20000 in
theorem mw_456 : (Cond.instanceMethod ⟨"BreakingDiskModel", "<init>", "()V"⟩ : Cond) ∈ x_tb := x_mem 476 rfl rfl
set_option maxRecDepth 20000 in
theorem mw_457 : (Cond.code ⟨"BreakingDiskModel", "<init>", "()V"⟩ prog_10_method_1_code 1 none : Cond) ∈ x_tb := x_mem 477 rfl rfl
set_option maxRecDepth 20000 in
theorem mw_458 : (Cond.methodLink "BreakingDiskModel" 1 ⟨"java/lang/Object", "<init>", "()V"⟩ : Cond) ∈ x_tb := x_mem 478 rfl rfl
set_option maxRecDepth 20000 in
theorem mw_459 : (Cond.constant "BreakingDiskModel" 32 (128000 : Int32) : Cond) ∈ x_tb := x_mem 479 rfl rfl
set_option maxRecDepth 20000 in
theorem mw_460 : (Cond.fieldLink "BreakingDiskModel" 57 "BreakingDiskModel" "thrown" "I" : Cond) ∈ x_tb := x_mem 480 rfl rfl
set_option maxRecDepth 20000 in
theorem mw_461 : (Cond.fieldLink "BreakingDiskModel" 7 "BreakingDiskModel" "tape" "[B" : Cond) ∈ x_tb := x_mem 481 rfl rfl
set_option maxRecDepth 20000 in
theorem mw_462 : (Cond.fieldLink "BreakingDiskModel" 13 "BreakingDiskModel" "path" "[B" : Cond) ∈ x_tb := x_mem 482 rfl rfl
set_option maxRecDepth 20000 in
theorem mw_463 : (Cond.fieldLink "BreakingDiskModel" 61 "BreakingDiskModel" "tapeSize" "I" : Cond) ∈ x_tb := x_mem 483 rfl rfl
set_option maxRecDepth 20000 in
theorem mw_464 : (Cond.fieldLink "BreakingDiskModel" 64 "BreakingDiskModel" "pathSize" "I" : Cond) ∈ x_tb := x_mem 484 rfl rfl
set_option maxRecDepth 20000 in
theorem mw_465 : (Cond.fieldLink "BreakingDiskModel" 16 "BreakingDiskModel" "sort" "[I" : Cond) ∈ x_tb := x_mem 485 rfl rfl
set_option maxRecDepth 20000 in
theorem mw_466 : (Cond.fieldLink "BreakingDiskModel" 20 "BreakingDiskModel" "time" "[I" : Cond) ∈ x_tb := x_mem 486 rfl rfl
set_option maxRecDepth 20000 in
theorem mw_467 : (Cond.fieldLink "BreakingDiskModel" 23 "BreakingDiskModel" "pathLong" "[I" : Cond) ∈ x_tb := x_mem 487 rfl rfl
set_option maxRecDepth 20000 in
theorem mw_468 : (Cond.fieldLink "BreakingDiskModel" 26 "BreakingDiskModel" "size" "[I" : Cond) ∈ x_tb := x_mem 488 rfl rfl
set_option maxRecDepth 20000 in
theorem mw_469 : (Cond.fieldLink "BreakingDiskModel" 29 "BreakingDiskModel" "paths" "[B" : Cond) ∈ x_tb := x_mem 489 rfl rfl
set_option maxRecDepth 20000 in
theorem mw_470 : (Cond.fieldLink "BreakingDiskModel" 33 "BreakingDiskModel" "bytes" "[B" : Cond) ∈ x_tb := x_mem 490 rfl rfl
set_option maxRecDepth 20000 in
theorem mw_471 : (Cond.fieldLink "BreakingDiskModel" 67 "BreakingDiskModel" "many" "I" : Cond) ∈ x_tb := x_mem 491 rfl rfl
set_option maxRecDepth 20000 in
theorem mw_472 : (Cond.fieldLink "BreakingDiskModel" 114 "BreakingDiskModel" "kept" "I" : Cond) ∈ x_tb := x_mem 492 rfl rfl
set_option maxRecDepth 20000 in
theorem mw_473 : (Cond.fieldLink "BreakingDiskModel" 86 "BreakingDiskModel" "done" "I" : Cond) ∈ x_tb := x_mem 493 rfl rfl
set_option maxRecDepth 20000 in
theorem mw_474 : (Cond.fieldLink "BreakingDiskModel" 89 "BreakingDiskModel" "all" "I" : Cond) ∈ x_tb := x_mem 494 rfl rfl
set_option maxRecDepth 20000 in
theorem mw_475 : (Cond.fieldLink "BreakingDiskModel" 36 "BreakingDiskModel" "what" "[I" : Cond) ∈ x_tb := x_mem 495 rfl rfl
set_option maxRecDepth 20000 in
theorem mw_476 : (Cond.fieldLink "BreakingDiskModel" 39 "BreakingDiskModel" "toSort" "[I" : Cond) ∈ x_tb := x_mem 496 rfl rfl
set_option maxRecDepth 20000 in
theorem mw_477 : (Cond.fieldLink "BreakingDiskModel" 42 "BreakingDiskModel" "toTime" "[I" : Cond) ∈ x_tb := x_mem 497 rfl rfl
set_option maxRecDepth 20000 in
theorem mw_478 : (Cond.fieldLink "BreakingDiskModel" 123 "BreakingDiskModel" "listed" "I" : Cond) ∈ x_tb := x_mem 498 rfl rfl
set_option maxRecDepth 20000 in
theorem mw_479 : (Cond.fieldLink "BreakingDiskModel" 45 "BreakingDiskModel" "listTime" "[I" : Cond) ∈ x_tb := x_mem 499 rfl rfl
set_option maxRecDepth 20000 in
theorem mw_480 : (Cond.fieldLink "BreakingDiskModel" 48 "BreakingDiskModel" "listLong" "[I" : Cond) ∈ x_tb := x_mem 500 rfl rfl
set_option maxRecDepth 20000 in
theorem mw_481 : (Cond.fieldLink "BreakingDiskModel" 51 "BreakingDiskModel" "order" "[I" : Cond) ∈ x_tb := x_mem 501 rfl rfl
set_option maxRecDepth 20000 in
theorem mw_482 : (Cond.fieldLink "BreakingDiskModel" 54 "BreakingDiskModel" "listPath" "[B" : Cond) ∈ x_tb := x_mem 502 rfl rfl
set_option maxRecDepth 20000 in
theorem mw_483 : (Cond.lays "BreakingDiskModel" "BreakingDiskModel" "thrown" "I" : Cond) ∈ x_tb := x_mem 503 rfl rfl
set_option maxRecDepth 20000 in
theorem mw_484 : (Cond.soleField "BreakingDiskModel" "thrown" : Cond) ∈ x_tb := x_mem 504 rfl rfl
set_option maxRecDepth 20000 in
theorem mw_485 : (Cond.laysFinal "BreakingDiskModel" "BreakingDiskModel" "tape" "[B" : Cond) ∈ x_tb := x_mem 505 rfl rfl
set_option maxRecDepth 20000 in
theorem mw_486 : (Cond.soleField "BreakingDiskModel" "tape" : Cond) ∈ x_tb := x_mem 506 rfl rfl
set_option maxRecDepth 20000 in
theorem mw_487 : (Cond.laysFinal "BreakingDiskModel" "BreakingDiskModel" "path" "[B" : Cond) ∈ x_tb := x_mem 507 rfl rfl
set_option maxRecDepth 20000 in
theorem mw_488 : (Cond.soleField "BreakingDiskModel" "path" : Cond) ∈ x_tb := x_mem 508 rfl rfl
set_option maxRecDepth 20000 in
theorem mw_489 : (Cond.lays "BreakingDiskModel" "BreakingDiskModel" "tapeSize" "I" : Cond) ∈ x_tb := x_mem 509 rfl rfl
set_option maxRecDepth 20000 in
theorem mw_490 : (Cond.soleField "BreakingDiskModel" "tapeSize" : Cond) ∈ x_tb := x_mem 510 rfl rfl
set_option maxRecDepth 20000 in
theorem mw_491 : (Cond.lays "BreakingDiskModel" "BreakingDiskModel" "pathSize" "I" : Cond) ∈ x_tb := x_mem 511 rfl rfl
set_option maxRecDepth 20000 in
theorem mw_492 : (Cond.soleField "BreakingDiskModel" "pathSize" : Cond) ∈ x_tb := x_mem 512 rfl rfl
set_option maxRecDepth 20000 in
theorem mw_493 : (Cond.laysFinal "BreakingDiskModel" "BreakingDiskModel" "sort" "[I" : Cond) ∈ x_tb := x_mem 513 rfl rfl
set_option maxRecDepth 20000 in
theorem mw_494 : (Cond.soleField "BreakingDiskModel" "sort" : Cond) ∈ x_tb := x_mem 514 rfl rfl
set_option maxRecDepth 20000 in
theorem mw_495 : (Cond.laysFinal "BreakingDiskModel" "BreakingDiskModel" "time" "[I" : Cond) ∈ x_tb := x_mem 515 rfl rfl
set_option maxRecDepth 20000 in
theorem mw_496 : (Cond.soleField "BreakingDiskModel" "time" : Cond) ∈ x_tb := x_mem 516 rfl rfl
set_option maxRecDepth 20000 in
theorem mw_497 : (Cond.laysFinal "BreakingDiskModel" "BreakingDiskModel" "pathLong" "[I" : Cond) ∈ x_tb := x_mem 517 rfl rfl
set_option maxRecDepth 20000 in
theorem mw_498 : (Cond.soleField "BreakingDiskModel" "pathLong" : Cond) ∈ x_tb := x_mem 518 rfl rfl
set_option maxRecDepth 20000 in
theorem mw_499 : (Cond.laysFinal "BreakingDiskModel" "BreakingDiskModel" "size" "[I" : Cond) ∈ x_tb := x_mem 519 rfl rfl
set_option maxRecDepth 20000 in
theorem mw_500 : (Cond.soleField "BreakingDiskModel" "size" : Cond) ∈ x_tb := x_mem 520 rfl rfl
set_option maxRecDepth 20000 in
theorem mw_501 : (Cond.laysFinal "BreakingDiskModel" "BreakingDiskModel" "paths" "[B" : Cond) ∈ x_tb := x_mem 521 rfl rfl
set_option maxRecDepth 20000 in
theorem mw_502 : (Cond.soleField "BreakingDiskModel" "paths" : Cond) ∈ x_tb := x_mem 522 rfl rfl
set_option maxRecDepth 20000 in
theorem mw_503 : (Cond.laysFinal "BreakingDiskModel" "BreakingDiskModel" "bytes" "[B" : Cond) ∈ x_tb := x_mem 523 rfl rfl
set_option maxRecDepth 20000 in
theorem mw_504 : (Cond.soleField "BreakingDiskModel" "bytes" : Cond) ∈ x_tb := x_mem 524 rfl rfl
set_option maxRecDepth 20000 in
theorem mw_505 : (Cond.lays "BreakingDiskModel" "BreakingDiskModel" "many" "I" : Cond) ∈ x_tb := x_mem 525 rfl rfl
set_option maxRecDepth 20000 in
theorem mw_506 : (Cond.soleField "BreakingDiskModel" "many" : Cond) ∈ x_tb := x_mem 526 rfl rfl
set_option maxRecDepth 20000 in
theorem mw_507 : (Cond.lays "BreakingDiskModel" "BreakingDiskModel" "kept" "I" : Cond) ∈ x_tb := x_mem 527 rfl rfl
set_option maxRecDepth 20000 in
theorem mw_508 : (Cond.soleField "BreakingDiskModel" "kept" : Cond) ∈ x_tb := x_mem 528 rfl rfl
set_option maxRecDepth 20000 in
theorem mw_509 : (Cond.lays "BreakingDiskModel" "BreakingDiskModel" "done" "I" : Cond) ∈ x_tb := x_mem 529 rfl rfl
set_option maxRecDepth 20000 in
theorem mw_510 : (Cond.soleField "BreakingDiskModel" "done" : Cond) ∈ x_tb := x_mem 530 rfl rfl
set_option maxRecDepth 20000 in
theorem mw_511 : (Cond.lays "BreakingDiskModel" "BreakingDiskModel" "all" "I" : Cond) ∈ x_tb := x_mem 531 rfl rfl
set_option maxRecDepth 20000 in
theorem mw_512 : (Cond.soleField "BreakingDiskModel" "all" : Cond) ∈ x_tb := x_mem 532 rfl rfl
set_option maxRecDepth 20000 in
theorem mw_513 : (Cond.laysFinal "BreakingDiskModel" "BreakingDiskModel" "what" "[I" : Cond) ∈ x_tb := x_mem 533 rfl rfl
set_option maxRecDepth 20000 in
theorem mw_514 : (Cond.soleField "BreakingDiskModel" "what" : Cond) ∈ x_tb := x_mem 534 rfl rfl
set_option maxRecDepth 20000 in
theorem mw_515 : (Cond.laysFinal "BreakingDiskModel" "BreakingDiskModel" "toSort" "[I" : Cond) ∈ x_tb := x_mem 535 rfl rfl
set_option maxRecDepth 20000 in
theorem mw_516 : (Cond.soleField "BreakingDiskModel" "toSort" : Cond) ∈ x_tb := x_mem 536 rfl rfl
set_option maxRecDepth 20000 in
theorem mw_517 : (Cond.laysFinal "BreakingDiskModel" "BreakingDiskModel" "toTime" "[I" : Cond) ∈ x_tb := x_mem 537 rfl rfl
set_option maxRecDepth 20000 in
theorem mw_518 : (Cond.soleField "BreakingDiskModel" "toTime" : Cond) ∈ x_tb := x_mem 538 rfl rfl
set_option maxRecDepth 20000 in
theorem mw_519 : (Cond.lays "BreakingDiskModel" "BreakingDiskModel" "listed" "I" : Cond) ∈ x_tb := x_mem 539 rfl rfl
set_option maxRecDepth 20000 in
theorem mw_520 : (Cond.soleField "BreakingDiskModel" "listed" : Cond) ∈ x_tb := x_mem 540 rfl rfl
set_option maxRecDepth 20000 in
theorem mw_521 : (Cond.laysFinal "BreakingDiskModel" "BreakingDiskModel" "listTime" "[I" : Cond) ∈ x_tb := x_mem 541 rfl rfl
set_option maxRecDepth 20000 in
theorem mw_522 : (Cond.soleField "BreakingDiskModel" "listTime" : Cond) ∈ x_tb := x_mem 542 rfl rfl
set_option maxRecDepth 20000 in
theorem mw_523 : (Cond.laysFinal "BreakingDiskModel" "BreakingDiskModel" "listLong" "[I" : Cond) ∈ x_tb := x_mem 543 rfl rfl
set_option maxRecDepth 20000 in
theorem mw_524 : (Cond.soleField "BreakingDiskModel" "listLong" : Cond) ∈ x_tb := x_mem 544 rfl rfl
set_option maxRecDepth 20000 in
theorem mw_525 : (Cond.laysFinal "BreakingDiskModel" "BreakingDiskModel" "order" "[I" : Cond) ∈ x_tb := x_mem 545 rfl rfl
set_option maxRecDepth 20000 in
theorem mw_526 : (Cond.soleField "BreakingDiskModel" "order" : Cond) ∈ x_tb := x_mem 546 rfl rfl
set_option maxRecDepth 20000 in
theorem mw_527 : (Cond.laysFinal "BreakingDiskModel" "BreakingDiskModel" "listPath" "[B" : Cond) ∈ x_tb := x_mem 547 rfl rfl
set_option maxRecDepth 20000 in
theorem mw_528 : (Cond.soleField "BreakingDiskModel" "listPath" : Cond) ∈ x_tb := x_mem 548 rfl rfl
set_option maxRecDepth 20000 in
theorem mw_529 : (Cond.superclass "BreakingDiskModel" "java/lang/Object" : Cond) ∈ x_tb := x_mem 549 rfl rfl
set_option maxRecDepth 20000 in
theorem mw_530 : (Cond.arrayClass .int : Cond) ∈ x_tb := x_mem 550 rfl rfl
set_option maxRecDepth 20000 in
theorem mw_531 : (Cond.methodLink "BreakingDiskLaw" 51 ⟨"BreakingDiskModel", "thrown", "()I"⟩ : Cond) ∈ x_tb := x_mem 551 rfl rfl
set_option maxRecDepth 20000 in
theorem mw_532 : (Cond.instanceMethod ⟨"BreakingDiskModel", "thrown", "()I"⟩ : Cond) ∈ x_tb := x_mem 552 rfl rfl
set_option maxRecDepth 20000 in
theorem mw_533 : (Cond.selects "BreakingDiskModel" ⟨"BreakingDiskModel", "thrown", "()I"⟩ ⟨"BreakingDiskModel", "thrown", "()I"⟩ : Cond) ∈ x_tb := x_mem 553 rfl rfl
set_option maxRecDepth 20000 in
theorem mw_534 : (Cond.code ⟨"BreakingDiskModel", "thrown", "()I"⟩ prog_10_method_2_code 1 (some .int) : Cond) ∈ x_tb := x_mem 554 rfl rfl
set_option maxRecDepth 20000 in
theorem mw_535 : (Cond.methodLink "BreakingDiskLaw" 44 ⟨"BreakingDiskModel", "put", "(JI)Z"⟩ : Cond) ∈ x_tb := x_mem 555 rfl rfl
set_option maxRecDepth 20000 in
theorem mw_536 : (Cond.instanceMethod ⟨"BreakingDiskModel", "put", "(JI)Z"⟩ : Cond) ∈ x_tb := x_mem 556 rfl rfl
set_option maxRecDepth 20000 in
theorem mw_537 : (Cond.selects "BreakingDiskModel" ⟨"BreakingDiskModel", "put", "(JI)Z"⟩ ⟨"BreakingDiskModel", "put", "(JI)Z"⟩ : Cond) ∈ x_tb := x_mem 557 rfl rfl
set_option maxRecDepth 20000 in
theorem mw_538 : (Cond.code ⟨"BreakingDiskModel", "put", "(JI)Z"⟩ prog_10_method_3_code 5 (some .boolean) : Cond) ∈ x_tb := x_mem 558 rfl rfl
set_option maxRecDepth 20000 in
theorem mw_539 : (Cond.methodLink "BreakingDiskLaw" 50 ⟨"BreakingDiskModel", "path", "()I"⟩ : Cond) ∈ x_tb := x_mem 559 rfl rfl
set_option maxRecDepth 20000 in
theorem mw_540 : (Cond.instanceMethod ⟨"BreakingDiskModel", "path", "()I"⟩ : Cond) ∈ x_tb := x_mem 560 rfl rfl
set_option maxRecDepth 20000 in
theorem mw_541 : (Cond.selects "BreakingDiskModel" ⟨"BreakingDiskModel", "path", "()I"⟩ ⟨"BreakingDiskModel", "path", "()I"⟩ : Cond) ∈ x_tb := x_mem 561 rfl rfl
set_option maxRecDepth 20000 in
theorem mw_542 : (Cond.code ⟨"BreakingDiskModel", "path", "()I"⟩ prog_10_method_4_code 2 (some .int) : Cond) ∈ x_tb := x_mem 562 rfl rfl
set_option maxRecDepth 20000 in
theorem mw_543 : (Cond.methodLink "BreakingDiskLaw" 57 ⟨"BreakingDiskModel", "write", "(II)V"⟩ : Cond) ∈ x_tb := x_mem 563 rfl rfl
set_option maxRecDepth 20000 in
theorem mw_544 : (Cond.instanceMethod ⟨"BreakingDiskModel", "write", "(II)V"⟩ : Cond) ∈ x_tb := x_mem 564 rfl rfl
set_option maxRecDepth 20000 in
theorem mw_545 : (Cond.selects "BreakingDiskModel" ⟨"BreakingDiskModel", "write", "(II)V"⟩ ⟨"BreakingDiskModel", "write", "(II)V"⟩ : Cond) ∈ x_tb := x_mem 565 rfl rfl
set_option maxRecDepth 20000 in
theorem mw_546 : (Cond.code ⟨"BreakingDiskModel", "write", "(II)V"⟩ prog_10_method_15_code 6 none : Cond) ∈ x_tb := x_mem 566 rfl rfl
set_option maxRecDepth 20000 in
theorem mw_547 : (Cond.methodLink "BreakingDiskModel" 95 ⟨"BreakingDiskModel", "findHere", "(II)I"⟩ : Cond) ∈ x_tb := x_mem 567 rfl rfl
set_option maxRecDepth 20000 in
theorem ml_548 : (Cond.privateMethod ⟨"BreakingDiskModel", "findHere", "(II)I"⟩ : Cond) ∈ lw_tbl := List.mem_of_getElem? (i := 568) rfl
set_option maxRecDepth 20000 in
theorem mw_549 : (Cond.instanceMethod ⟨"BreakingDiskModel", "findHere", "(II)I"⟩ : Cond) ∈ x_tb := x_mem 569 rfl rfl
set_option maxRecDepth 20000 in
theorem mw_550 : (Cond.code ⟨"BreakingDiskModel", "findHere", "(II)I"⟩ prog_10_method_14_code 6 (some .int) : Cond) ∈ x_tb := x_mem 570 rfl rfl
set_option maxRecDepth 20000 in
theorem mw_551 : (Cond.methodLink "BreakingDiskModel" 99 ⟨"BreakingDiskModel", "isName", "(II)Z"⟩ : Cond) ∈ x_tb := x_mem 571 rfl rfl
set_option maxRecDepth 20000 in
theorem mw_552 : (Cond.static ⟨"BreakingDiskModel", "isName", "(II)Z"⟩ : Cond) ∈ x_tb := x_mem 572 rfl rfl
set_option maxRecDepth 20000 in
theorem mw_553 : (Cond.code ⟨"BreakingDiskModel", "isName", "(II)Z"⟩ prog_10_method_12_code 2 (some .boolean) : Cond) ∈ x_tb := x_mem 573 rfl rfl
set_option maxRecDepth 20000 in
theorem mw_554 : (Cond.methodLink "BreakingDiskModel" 102 ⟨"BreakingDiskModel", "entry", "()I"⟩ : Cond) ∈ x_tb := x_mem 574 rfl rfl
set_option maxRecDepth 20000 in
theorem ml_555 : (Cond.privateMethod ⟨"BreakingDiskModel", "entry", "()I"⟩ : Cond) ∈ lw_tbl := List.mem_of_getElem? (i := 575) rfl
set_option maxRecDepth 20000 in
theorem mw_556 : (Cond.instanceMethod ⟨"BreakingDiskModel", "entry", "()I"⟩ : Cond) ∈ x_tb := x_mem 576 rfl rfl
set_option maxRecDepth 20000 in
theorem mw_557 : (Cond.code ⟨"BreakingDiskModel", "entry", "()I"⟩ prog_10_method_13_code 1 (some .int) : Cond) ∈ x_tb := x_mem 577 rfl rfl
set_option maxRecDepth 20000 in
theorem mw_558 : (Cond.methodLink "BreakingDiskModel" 106 ⟨"BreakingDiskModel", "name", "(III)V"⟩ : Cond) ∈ x_tb := x_mem 578 rfl rfl
set_option maxRecDepth 20000 in
theorem ml_559 : (Cond.privateMethod ⟨"BreakingDiskModel", "name", "(III)V"⟩ : Cond) ∈ lw_tbl := List.mem_of_getElem? (i := 579) rfl
set_option maxRecDepth 20000 in
theorem mw_560 : (Cond.instanceMethod ⟨"BreakingDiskModel", "name", "(III)V"⟩ : Cond) ∈ x_tb := x_mem 580 rfl rfl
set_option maxRecDepth 20000 in
theorem mw_561 : (Cond.code ⟨"BreakingDiskModel", "name", "(III)V"⟩ prog_10_method_6_code 5 none : Cond) ∈ x_tb := x_mem 581 rfl rfl
set_option maxRecDepth 20000 in
theorem mw_562 : (Cond.methodLink "BreakingDiskModel" 110 ⟨"BreakingDiskModel", "add", "(IIII)V"⟩ : Cond) ∈ x_tb := x_mem 582 rfl rfl
set_option maxRecDepth 20000 in
theorem ml_563 : (Cond.privateMethod ⟨"BreakingDiskModel", "add", "(IIII)V"⟩ : Cond) ∈ lw_tbl := List.mem_of_getElem? (i := 583) rfl
set_option maxRecDepth 20000 in
theorem mw_564 : (Cond.instanceMethod ⟨"BreakingDiskModel", "add", "(IIII)V"⟩ : Cond) ∈ x_tb := x_mem 584 rfl rfl
set_option maxRecDepth 20000 in
theorem mw_565 : (Cond.code ⟨"BreakingDiskModel", "add", "(IIII)V"⟩ prog_10_method_11_code 5 none : Cond) ∈ x_tb := x_mem 585 rfl rfl
set_option maxRecDepth 20000 in
theorem mw_566 : (Cond.methodLink "BreakingDiskModel" 92 ⟨"BreakingDiskModel", "act", "(I)V"⟩ : Cond) ∈ x_tb := x_mem 586 rfl rfl
set_option maxRecDepth 20000 in
theorem ml_567 : (Cond.privateMethod ⟨"BreakingDiskModel", "act", "(I)V"⟩ : Cond) ∈ lw_tbl := List.mem_of_getElem? (i := 587) rfl
set_option maxRecDepth 20000 in
theorem mw_568 : (Cond.instanceMethod ⟨"BreakingDiskModel", "act", "(I)V"⟩ : Cond) ∈ x_tb := x_mem 588 rfl rfl
set_option maxRecDepth 20000 in
theorem mw_569 : (Cond.code ⟨"BreakingDiskModel", "act", "(I)V"⟩ prog_10_method_10_code 5 none : Cond) ∈ x_tb := x_mem 589 rfl rfl
set_option maxRecDepth 20000 in
theorem mw_570 : (Cond.methodLink "BreakingDiskModel" 78 ⟨"BreakingDiskModel", "find", "(III)I"⟩ : Cond) ∈ x_tb := x_mem 590 rfl rfl
set_option maxRecDepth 20000 in
theorem ml_571 : (Cond.privateMethod ⟨"BreakingDiskModel", "find", "(III)I"⟩ : Cond) ∈ lw_tbl := List.mem_of_getElem? (i := 591) rfl
set_option maxRecDepth 20000 in
theorem mw_572 : (Cond.instanceMethod ⟨"BreakingDiskModel", "find", "(III)I"⟩ : Cond) ∈ x_tb := x_mem 592 rfl rfl
set_option maxRecDepth 20000 in
theorem mw_573 : (Cond.code ⟨"BreakingDiskModel", "find", "(III)I"⟩ prog_10_method_8_code 5 (some .int) : Cond) ∈ x_tb := x_mem 593 rfl rfl
set_option maxRecDepth 20000 in
theorem mw_574 : (Cond.methodLink "BreakingDiskModel" 70 ⟨"BreakingDiskModel", "hasPath", "(II)Z"⟩ : Cond) ∈ x_tb := x_mem 594 rfl rfl
set_option maxRecDepth 20000 in
theorem ml_575 : (Cond.privateMethod ⟨"BreakingDiskModel", "hasPath", "(II)Z"⟩ : Cond) ∈ lw_tbl := List.mem_of_getElem? (i := 595) rfl
set_option maxRecDepth 20000 in
theorem mw_576 : (Cond.instanceMethod ⟨"BreakingDiskModel", "hasPath", "(II)Z"⟩ : Cond) ∈ x_tb := x_mem 596 rfl rfl
set_option maxRecDepth 20000 in
theorem mw_577 : (Cond.code ⟨"BreakingDiskModel", "hasPath", "(II)Z"⟩ prog_10_method_7_code 5 (some .boolean) : Cond) ∈ x_tb := x_mem 597 rfl rfl
set_option maxRecDepth 20000 in
theorem mw_578 : (Cond.methodLink "BreakingDiskModel" 74 ⟨"BreakingDiskModel", "copy", "(II)V"⟩ : Cond) ∈ x_tb := x_mem 598 rfl rfl
set_option maxRecDepth 20000 in
theorem ml_579 : (Cond.privateMethod ⟨"BreakingDiskModel", "copy", "(II)V"⟩ : Cond) ∈ lw_tbl := List.mem_of_getElem? (i := 599) rfl
set_option maxRecDepth 20000 in
theorem mw_580 : (Cond.instanceMethod ⟨"BreakingDiskModel", "copy", "(II)V"⟩ : Cond) ∈ x_tb := x_mem 600 rfl rfl
set_option maxRecDepth 20000 in
theorem mw_581 : (Cond.code ⟨"BreakingDiskModel", "copy", "(II)V"⟩ prog_10_method_5_code 4 none : Cond) ∈ x_tb := x_mem 601 rfl rfl
set_option maxRecDepth 20000 in
theorem mw_582 : (Cond.methodLink "BreakingDiskModel" 82 ⟨"BreakingDiskModel", "drop", "(I)V"⟩ : Cond) ∈ x_tb := x_mem 602 rfl rfl
set_option maxRecDepth 20000 in
theorem ml_583 : (Cond.privateMethod ⟨"BreakingDiskModel", "drop", "(I)V"⟩ : Cond) ∈ lw_tbl := List.mem_of_getElem? (i := 603) rfl
set_option maxRecDepth 20000 in
theorem mw_584 : (Cond.instanceMethod ⟨"BreakingDiskModel", "drop", "(I)V"⟩ : Cond) ∈ x_tb := x_mem 604 rfl rfl
set_option maxRecDepth 20000 in
theorem mw_585 : (Cond.code ⟨"BreakingDiskModel", "drop", "(I)V"⟩ prog_10_method_9_code 2 none : Cond) ∈ x_tb := x_mem 605 rfl rfl
set_option maxRecDepth 20000 in
theorem mw_586 : (Cond.methodLink "BreakingDiskLaw" 61 ⟨"BreakingDiskModel", "rename", "(IIII)V"⟩ : Cond) ∈ x_tb := x_mem 606 rfl rfl
set_option maxRecDepth 20000 in
theorem mw_587 : (Cond.instanceMethod ⟨"BreakingDiskModel", "rename", "(IIII)V"⟩ : Cond) ∈ x_tb := x_mem 607 rfl rfl
set_option maxRecDepth 20000 in
theorem mw_588 : (Cond.selects "BreakingDiskModel" ⟨"BreakingDiskModel", "rename", "(IIII)V"⟩ ⟨"BreakingDiskModel", "rename", "(IIII)V"⟩ : Cond) ∈ x_tb := x_mem 608 rfl rfl
set_option maxRecDepth 20000 in
theorem mw_589 : (Cond.code ⟨"BreakingDiskModel", "rename", "(IIII)V"⟩ prog_10_method_16_code 7 none : Cond) ∈ x_tb := x_mem 609 rfl rfl
set_option maxRecDepth 20000 in
theorem mw_590 : (Cond.methodLink "BreakingDiskLaw" 64 ⟨"BreakingDiskModel", "delete", "(II)V"⟩ : Cond) ∈ x_tb := x_mem 610 rfl rfl
set_option maxRecDepth 20000 in
theorem mw_591 : (Cond.instanceMethod ⟨"BreakingDiskModel", "delete", "(II)V"⟩ : Cond) ∈ x_tb := x_mem 611 rfl rfl
set_option maxRecDepth 20000 in
theorem mw_592 : (Cond.selects "BreakingDiskModel" ⟨"BreakingDiskModel", "delete", "(II)V"⟩ ⟨"BreakingDiskModel", "delete", "(II)V"⟩ : Cond) ∈ x_tb := x_mem 612 rfl rfl
set_option maxRecDepth 20000 in
theorem mw_593 : (Cond.code ⟨"BreakingDiskModel", "delete", "(II)V"⟩ prog_10_method_17_code 4 none : Cond) ∈ x_tb := x_mem 613 rfl rfl
set_option maxRecDepth 20000 in
theorem mw_594 : (Cond.methodLink "BreakingDiskLaw" 68 ⟨"BreakingDiskModel", "sync", "()I"⟩ : Cond) ∈ x_tb := x_mem 614 rfl rfl
set_option maxRecDepth 20000 in
theorem mw_595 : (Cond.instanceMethod ⟨"BreakingDiskModel", "sync", "()I"⟩ : Cond) ∈ x_tb := x_mem 615 rfl rfl
set_option maxRecDepth 20000 in
theorem mw_596 : (Cond.selects "BreakingDiskModel" ⟨"BreakingDiskModel", "sync", "()I"⟩ ⟨"BreakingDiskModel", "sync", "()I"⟩ : Cond) ∈ x_tb := x_mem 616 rfl rfl
set_option maxRecDepth 20000 in
theorem mw_597 : (Cond.code ⟨"BreakingDiskModel", "sync", "()I"⟩ prog_10_method_19_code 2 (some .int) : Cond) ∈ x_tb := x_mem 617 rfl rfl
set_option maxRecDepth 20000 in
theorem mw_598 : (Cond.methodLink "BreakingDiskModel" 117 ⟨"BreakingDiskModel", "keep", "()V"⟩ : Cond) ∈ x_tb := x_mem 618 rfl rfl
set_option maxRecDepth 20000 in
theorem ml_599 : (Cond.privateMethod ⟨"BreakingDiskModel", "keep", "()V"⟩ : Cond) ∈ lw_tbl := List.mem_of_getElem? (i := 619) rfl
set_option maxRecDepth 20000 in
theorem mw_600 : (Cond.instanceMethod ⟨"BreakingDiskModel", "keep", "()V"⟩ : Cond) ∈ x_tb := x_mem 620 rfl rfl
set_option maxRecDepth 20000 in
theorem mw_601 : (Cond.code ⟨"BreakingDiskModel", "keep", "()V"⟩ prog_10_method_18_code 2 none : Cond) ∈ x_tb := x_mem 621 rfl rfl
set_option maxRecDepth 20000 in
theorem mw_602 : (Cond.methodLink "BreakingDiskLaw" 72 ⟨"BreakingDiskModel", "breakOff", "(I)I"⟩ : Cond) ∈ x_tb := x_mem 622 rfl rfl
set_option maxRecDepth 20000 in
theorem mw_603 : (Cond.instanceMethod ⟨"BreakingDiskModel", "breakOff", "(I)I"⟩ : Cond) ∈ x_tb := x_mem 623 rfl rfl
set_option maxRecDepth 20000 in
theorem mw_604 : (Cond.selects "BreakingDiskModel" ⟨"BreakingDiskModel", "breakOff", "(I)I"⟩ ⟨"BreakingDiskModel", "breakOff", "(I)I"⟩ : Cond) ∈ x_tb := x_mem 624 rfl rfl
set_option maxRecDepth 20000 in
theorem mw_605 : (Cond.code ⟨"BreakingDiskModel", "breakOff", "(I)I"⟩ prog_10_method_20_code 4 (some .int) : Cond) ∈ x_tb := x_mem 625 rfl rfl
set_option maxRecDepth 20000 in
theorem mw_606 : (Cond.methodLink "BreakingDiskLaw" 77 ⟨"BreakingDiskModel", "size", "(II)I"⟩ : Cond) ∈ x_tb := x_mem 626 rfl rfl
set_option maxRecDepth 20000 in
theorem mw_607 : (Cond.instanceMethod ⟨"BreakingDiskModel", "size", "(II)I"⟩ : Cond) ∈ x_tb := x_mem 627 rfl rfl
set_option maxRecDepth 20000 in
theorem mw_608 : (Cond.selects "BreakingDiskModel" ⟨"BreakingDiskModel", "size", "(II)I"⟩ ⟨"BreakingDiskModel", "size", "(II)I"⟩ : Cond) ∈ x_tb := x_mem 628 rfl rfl
set_option maxRecDepth 20000 in
theorem mw_609 : (Cond.code ⟨"BreakingDiskModel", "size", "(II)I"⟩ prog_10_method_21_code 4 (some .int) : Cond) ∈ x_tb := x_mem 629 rfl rfl
set_option maxRecDepth 20000 in
theorem mw_610 : (Cond.methodLink "BreakingDiskLaw" 82 ⟨"BreakingDiskModel", "at", "(III)I"⟩ : Cond) ∈ x_tb := x_mem 630 rfl rfl
set_option maxRecDepth 20000 in
theorem mw_611 : (Cond.instanceMethod ⟨"BreakingDiskModel", "at", "(III)I"⟩ : Cond) ∈ x_tb := x_mem 631 rfl rfl
set_option maxRecDepth 20000 in
theorem mw_612 : (Cond.selects "BreakingDiskModel" ⟨"BreakingDiskModel", "at", "(III)I"⟩ ⟨"BreakingDiskModel", "at", "(III)I"⟩ : Cond) ∈ x_tb := x_mem 632 rfl rfl
set_option maxRecDepth 20000 in
theorem mw_613 : (Cond.code ⟨"BreakingDiskModel", "at", "(III)I"⟩ prog_10_method_22_code 5 (some .int) : Cond) ∈ x_tb := x_mem 633 rfl rfl
set_option maxRecDepth 20000 in
theorem mw_614 : (Cond.methodLink "BreakingDiskLaw" 86 ⟨"BreakingDiskModel", "list", "(I)I"⟩ : Cond) ∈ x_tb := x_mem 634 rfl rfl
set_option maxRecDepth 20000 in
theorem mw_615 : (Cond.instanceMethod ⟨"BreakingDiskModel", "list", "(I)I"⟩ : Cond) ∈ x_tb := x_mem 635 rfl rfl
set_option maxRecDepth 20000 in
theorem mw_616 : (Cond.selects "BreakingDiskModel" ⟨"BreakingDiskModel", "list", "(I)I"⟩ ⟨"BreakingDiskModel", "list", "(I)I"⟩ : Cond) ∈ x_tb := x_mem 636 rfl rfl
set_option maxRecDepth 20000 in
theorem mw_617 : (Cond.code ⟨"BreakingDiskModel", "list", "(I)I"⟩ prog_10_method_25_code 5 (some .int) : Cond) ∈ x_tb := x_mem 637 rfl rfl
set_option maxRecDepth 20000 in
theorem mw_618 : (Cond.methodLink "BreakingDiskModel" 126 ⟨"BreakingDiskModel", "isAhead", "(II)Z"⟩ : Cond) ∈ x_tb := x_mem 638 rfl rfl
set_option maxRecDepth 20000 in
theorem ml_619 : (Cond.privateMethod ⟨"BreakingDiskModel", "isAhead", "(II)Z"⟩ : Cond) ∈ lw_tbl := List.mem_of_getElem? (i := 639) rfl
set_option maxRecDepth 20000 in
theorem mw_620 : (Cond.instanceMethod ⟨"BreakingDiskModel", "isAhead", "(II)Z"⟩ : Cond) ∈ x_tb := x_mem 640 rfl rfl
set_option maxRecDepth 20000 in
theorem mw_621 : (Cond.code ⟨"BreakingDiskModel", "isAhead", "(II)Z"⟩ prog_10_method_24_code 4 (some .boolean) : Cond) ∈ x_tb := x_mem 641 rfl rfl
set_option maxRecDepth 20000 in
theorem mw_622 : (Cond.methodLink "BreakingDiskModel" 120 ⟨"BreakingDiskModel", "rank", "(II)I"⟩ : Cond) ∈ x_tb := x_mem 642 rfl rfl
set_option maxRecDepth 20000 in
theorem ml_623 : (Cond.privateMethod ⟨"BreakingDiskModel", "rank", "(II)I"⟩ : Cond) ∈ lw_tbl := List.mem_of_getElem? (i := 643) rfl
set_option maxRecDepth 20000 in
theorem mw_624 : (Cond.instanceMethod ⟨"BreakingDiskModel", "rank", "(II)I"⟩ : Cond) ∈ x_tb := x_mem 644 rfl rfl
set_option maxRecDepth 20000 in
theorem mw_625 : (Cond.code ⟨"BreakingDiskModel", "rank", "(II)I"⟩ prog_10_method_23_code 4 (some .int) : Cond) ∈ x_tb := x_mem 645 rfl rfl
set_option maxRecDepth 20000 in
theorem mw_626 : (Cond.methodLink "BreakingDiskLaw" 90 ⟨"BreakingDiskModel", "listed", "(II)I"⟩ : Cond) ∈ x_tb := x_mem 646 rfl rfl
set_option maxRecDepth 20000 in
theorem mw_627 : (Cond.instanceMethod ⟨"BreakingDiskModel", "listed", "(II)I"⟩ : Cond) ∈ x_tb := x_mem 647 rfl rfl
set_option maxRecDepth 20000 in
theorem mw_628 : (Cond.selects "BreakingDiskModel" ⟨"BreakingDiskModel", "listed", "(II)I"⟩ ⟨"BreakingDiskModel", "listed", "(II)I"⟩ : Cond) ∈ x_tb := x_mem 648 rfl rfl
set_option maxRecDepth 20000 in
theorem mw_629 : (Cond.code ⟨"BreakingDiskModel", "listed", "(II)I"⟩ prog_10_method_26_code 3 (some .int) : Cond) ∈ x_tb := x_mem 649 rfl rfl
set_option maxRecDepth 20000 in
theorem mw_630 : (Cond.methodLink "BreakingDiskLaw" 94 ⟨"BreakingDiskModel", "count", "(I)I"⟩ : Cond) ∈ x_tb := x_mem 650 rfl rfl
set_option maxRecDepth 20000 in
theorem mw_631 : (Cond.instanceMethod ⟨"BreakingDiskModel", "count", "(I)I"⟩ : Cond) ∈ x_tb := x_mem 651 rfl rfl
set_option maxRecDepth 20000 in
theorem mw_632 : (Cond.selects "BreakingDiskModel" ⟨"BreakingDiskModel", "count", "(I)I"⟩ ⟨"BreakingDiskModel", "count", "(I)I"⟩ : Cond) ∈ x_tb := x_mem 652 rfl rfl
set_option maxRecDepth 20000 in
theorem mw_633 : (Cond.code ⟨"BreakingDiskModel", "count", "(I)I"⟩ prog_10_method_27_code 4 (some .int) : Cond) ∈ x_tb := x_mem 653 rfl rfl
set_option maxRecDepth 20000 in
theorem mw_634 : (Cond.constantLong "BreakingDiskLaw" 38 (4294967295 : Int64) : Cond) ∈ x_tb := x_mem 654 rfl rfl
set_option maxRecDepth 20000 in
theorem mw_635 : (Cond.arrayClass .long : Cond) ∈ x_tb := x_mem 655 rfl rfl
set_option maxRecDepth 20000 in
theorem mw_636 : (Cond.sameMethod "java/lang/Throwable" "java/lang/Throwable" "fillInStackTrace" "(I)Ljava/lang/Throwable;" : Cond) ∈ x_tb := x_mem 656 rfl rfl
theorem ms_0 : (Cond.selects "BreakingDisk" ⟨"BreakingDisk", "nameOf", "(II)LBreakingDisk$Name;"⟩ ⟨"BreakingDisk", "nameOf", "(II)LBreakingDisk$Name;"⟩ : Cond) ∈ x_tb := x_mem 0 rfl rfl
theorem ms_1 : (Cond.selects "BreakingDisk$Files" ⟨"BreakingDisk$Files", "indexOf", "(LBreakingDisk$Name;)I"⟩ ⟨"BreakingDisk$Files", "indexOf", "(LBreakingDisk$Name;)I"⟩ : Cond) ∈ x_tb := x_mem 1 rfl rfl
theorem ms_2 : (Cond.selects "java/lang/Throwable" ⟨"java/lang/Throwable", "fillInStackTrace", "(I)Ljava/lang/Throwable;"⟩ ⟨"java/lang/Throwable", "fillInStackTrace", "(I)Ljava/lang/Throwable;"⟩ : Cond) ∈ x_tb := x_mem 2 rfl rfl
theorem ms_3 : (Cond.selects "BreakingDisk" ⟨"BreakingDisk", "refuseFullJournal", "()V"⟩ ⟨"BreakingDisk", "refuseFullJournal", "()V"⟩ : Cond) ∈ x_tb := x_mem 3 rfl rfl
theorem ms_4 : (Cond.selects "BreakingDisk" ⟨"BreakingDisk", "perform", "(LBreakingDisk$Operation;)V"⟩ ⟨"BreakingDisk", "perform", "(LBreakingDisk$Operation;)V"⟩ : Cond) ∈ x_tb := x_mem 4 rfl rfl
theorem ms_5 : (Cond.selects "BreakingDisk$Files" ⟨"BreakingDisk$Files", "remove", "(LBreakingDisk$Name;)V"⟩ ⟨"BreakingDisk$Files", "remove", "(LBreakingDisk$Name;)V"⟩ : Cond) ∈ x_tb := x_mem 5 rfl rfl
theorem ms_6 : (Cond.selects "BreakingDisk$Files" ⟨"BreakingDisk$Files", "insert", "(LBreakingDisk$StoredFile;)V"⟩ ⟨"BreakingDisk$Files", "insert", "(LBreakingDisk$StoredFile;)V"⟩ : Cond) ∈ x_tb := x_mem 6 rfl rfl
theorem ms_7 : (Cond.selects "BreakingDisk" ⟨"BreakingDisk", "fileToChange", "(II)LBreakingDisk$StoredFile;"⟩ ⟨"BreakingDisk", "fileToChange", "(II)LBreakingDisk$StoredFile;"⟩ : Cond) ∈ x_tb := x_mem 7 rfl rfl
theorem ms_8 : (Cond.selects "BreakingDiskModel" ⟨"BreakingDiskModel", "findHere", "(II)I"⟩ ⟨"BreakingDiskModel", "findHere", "(II)I"⟩ : Cond) ∈ x_tb := x_mem 8 rfl rfl
theorem ms_9 : (Cond.selects "BreakingDiskModel" ⟨"BreakingDiskModel", "entry", "()I"⟩ ⟨"BreakingDiskModel", "entry", "()I"⟩ : Cond) ∈ x_tb := x_mem 9 rfl rfl
theorem ms_10 : (Cond.selects "BreakingDiskModel" ⟨"BreakingDiskModel", "name", "(III)V"⟩ ⟨"BreakingDiskModel", "name", "(III)V"⟩ : Cond) ∈ x_tb := x_mem 10 rfl rfl
theorem ms_11 : (Cond.selects "BreakingDiskModel" ⟨"BreakingDiskModel", "add", "(IIII)V"⟩ ⟨"BreakingDiskModel", "add", "(IIII)V"⟩ : Cond) ∈ x_tb := x_mem 11 rfl rfl
theorem ms_12 : (Cond.selects "BreakingDiskModel" ⟨"BreakingDiskModel", "act", "(I)V"⟩ ⟨"BreakingDiskModel", "act", "(I)V"⟩ : Cond) ∈ x_tb := x_mem 12 rfl rfl
theorem ms_13 : (Cond.selects "BreakingDiskModel" ⟨"BreakingDiskModel", "find", "(III)I"⟩ ⟨"BreakingDiskModel", "find", "(III)I"⟩ : Cond) ∈ x_tb := x_mem 13 rfl rfl
theorem ms_14 : (Cond.selects "BreakingDiskModel" ⟨"BreakingDiskModel", "hasPath", "(II)Z"⟩ ⟨"BreakingDiskModel", "hasPath", "(II)Z"⟩ : Cond) ∈ x_tb := x_mem 14 rfl rfl
theorem ms_15 : (Cond.selects "BreakingDiskModel" ⟨"BreakingDiskModel", "copy", "(II)V"⟩ ⟨"BreakingDiskModel", "copy", "(II)V"⟩ : Cond) ∈ x_tb := x_mem 15 rfl rfl
theorem ms_16 : (Cond.selects "BreakingDiskModel" ⟨"BreakingDiskModel", "drop", "(I)V"⟩ ⟨"BreakingDiskModel", "drop", "(I)V"⟩ : Cond) ∈ x_tb := x_mem 16 rfl rfl
theorem ms_17 : (Cond.selects "BreakingDiskModel" ⟨"BreakingDiskModel", "keep", "()V"⟩ ⟨"BreakingDiskModel", "keep", "()V"⟩ : Cond) ∈ x_tb := x_mem 17 rfl rfl
theorem ms_18 : (Cond.selects "BreakingDiskModel" ⟨"BreakingDiskModel", "isAhead", "(II)Z"⟩ ⟨"BreakingDiskModel", "isAhead", "(II)Z"⟩ : Cond) ∈ x_tb := x_mem 18 rfl rfl
theorem ms_19 : (Cond.selects "BreakingDiskModel" ⟨"BreakingDiskModel", "rank", "(II)I"⟩ ⟨"BreakingDiskModel", "rank", "(II)I"⟩ : Cond) ∈ x_tb := x_mem 19 rfl rfl
def T_By : u_T := fun k => match k with
  | _ => ("BreakingDisk$Bytes", "row", "[B", true)
def t_By : Nat → FieldType := fun k => match k with
  | _ => .array .byte
theorem n_By : ∀ a, a < 1 → ∀ b, b < 1 → a ≠ b → (T_By a).2.1 ≠ (T_By b).2.1 := by decide +kernel
theorem t_By_ok : ∀ k, k < 1 → parseFieldDescriptor (T_By k).2.2.1 = some (t_By k) := by decide +kernel
theorem u_By : ∀ w ∈ u_ws "BreakingDisk$Bytes" T_By 1, w ∈ x_tb := List.forall_mem_cons.mpr ⟨mw_82, fun _ h => absurd h List.not_mem_nil⟩
def T_Nm : u_T := fun k => match k with
  | 0 => ("BreakingDisk$Name", "sort", "I", true)
  | 1 => ("BreakingDisk$Name", "time", "I", true)
  | _ => ("BreakingDisk$Name", "path", "LBreakingDisk$Bytes;", true)
def t_Nm : Nat → FieldType := fun k => match k with
  | 0 => .int
  | 1 => .int
  | _ => .object "BreakingDisk$Bytes"
theorem n_Nm : ∀ a, a < 3 → ∀ b, b < 3 → a ≠ b → (T_Nm a).2.1 ≠ (T_Nm b).2.1 := by decide +kernel
theorem t_Nm_ok : ∀ k, k < 3 → parseFieldDescriptor (T_Nm k).2.2.1 = some (t_Nm k) := by decide +kernel
theorem u_Nm : ∀ w ∈ u_ws "BreakingDisk$Name" T_Nm 3, w ∈ x_tb := List.forall_mem_cons.mpr ⟨mw_147, List.forall_mem_cons.mpr ⟨mw_149, List.forall_mem_cons.mpr ⟨mw_151, fun _ h => absurd h List.not_mem_nil⟩⟩⟩
def T_Sf : u_T := fun k => match k with
  | 0 => ("BreakingDisk$StoredFile", "name", "LBreakingDisk$Name;", true)
  | _ => ("BreakingDisk$StoredFile", "content", "LBreakingDisk$Bytes;", true)
def t_Sf : Nat → FieldType := fun k => match k with
  | 0 => .object "BreakingDisk$Name"
  | _ => .object "BreakingDisk$Bytes"
theorem n_Sf : ∀ a, a < 2 → ∀ b, b < 2 → a ≠ b → (T_Sf a).2.1 ≠ (T_Sf b).2.1 := by decide +kernel
theorem t_Sf_ok : ∀ k, k < 2 → parseFieldDescriptor (T_Sf k).2.2.1 = some (t_Sf k) := by decide +kernel
theorem u_Sf : ∀ w ∈ u_ws "BreakingDisk$StoredFile" T_Sf 2, w ∈ x_tb := List.forall_mem_cons.mpr ⟨mw_380, List.forall_mem_cons.mpr ⟨mw_382, fun _ h => absurd h List.not_mem_nil⟩⟩
def T_Op : u_T := fun k => match k with
  | 0 => ("BreakingDisk$Operation", "goes", "LBreakingDisk$Name;", true)
  | _ => ("BreakingDisk$Operation", "comes", "LBreakingDisk$StoredFile;", true)
def t_Op : Nat → FieldType := fun k => match k with
  | 0 => .object "BreakingDisk$Name"
  | _ => .object "BreakingDisk$StoredFile"
theorem n_Op : ∀ a, a < 2 → ∀ b, b < 2 → a ≠ b → (T_Op a).2.1 ≠ (T_Op b).2.1 := by decide +kernel
theorem t_Op_ok : ∀ k, k < 2 → parseFieldDescriptor (T_Op k).2.2.1 = some (t_Op k) := by decide +kernel
theorem u_Op : ∀ w ∈ u_ws "BreakingDisk$Operation" T_Op 2, w ∈ x_tb := List.forall_mem_cons.mpr ⟨mw_393, List.forall_mem_cons.mpr ⟨mw_395, fun _ h => absurd h List.not_mem_nil⟩⟩
def T_Tp : u_T := fun k => match k with
  | 0 => ("BreakingDisk$Tape", "row", "[B", true)
  | _ => ("BreakingDisk$Tape", "length", "I", false)
def t_Tp : Nat → FieldType := fun k => match k with
  | 0 => .array .byte
  | _ => .int
theorem n_Tp : ∀ a, a < 2 → ∀ b, b < 2 → a ≠ b → (T_Tp a).2.1 ≠ (T_Tp b).2.1 := by decide +kernel
theorem t_Tp_ok : ∀ k, k < 2 → parseFieldDescriptor (T_Tp k).2.2.1 = some (t_Tp k) := by decide +kernel
theorem u_Tp : ∀ w ∈ u_ws "BreakingDisk$Tape" T_Tp 2, w ∈ x_tb := List.forall_mem_cons.mpr ⟨mw_37, List.forall_mem_cons.mpr ⟨mw_39, fun _ h => absurd h List.not_mem_nil⟩⟩
def T_Fi : u_T := fun k => match k with
  | 0 => ("BreakingDisk$Files", "row", "[LBreakingDisk$StoredFile;", true)
  | _ => ("BreakingDisk$Files", "length", "I", false)
def t_Fi : Nat → FieldType := fun k => match k with
  | 0 => .array (.object "BreakingDisk$StoredFile")
  | _ => .int
theorem n_Fi : ∀ a, a < 2 → ∀ b, b < 2 → a ≠ b → (T_Fi a).2.1 ≠ (T_Fi b).2.1 := by decide +kernel
theorem t_Fi_ok : ∀ k, k < 2 → parseFieldDescriptor (T_Fi k).2.2.1 = some (t_Fi k) := by decide +kernel
theorem u_Fi : ∀ w ∈ u_ws "BreakingDisk$Files" T_Fi 2, w ∈ x_tb := List.forall_mem_cons.mpr ⟨mw_54, List.forall_mem_cons.mpr ⟨mw_56, fun _ h => absurd h List.not_mem_nil⟩⟩
def T_Jo : u_T := fun k => match k with
  | 0 => ("BreakingDisk$Journal", "row", "[LBreakingDisk$Operation;", true)
  | _ => ("BreakingDisk$Journal", "length", "I", false)
def t_Jo : Nat → FieldType := fun k => match k with
  | 0 => .array (.object "BreakingDisk$Operation")
  | _ => .int
theorem n_Jo : ∀ a, a < 2 → ∀ b, b < 2 → a ≠ b → (T_Jo a).2.1 ≠ (T_Jo b).2.1 := by decide +kernel
theorem t_Jo_ok : ∀ k, k < 2 → parseFieldDescriptor (T_Jo k).2.2.1 = some (t_Jo k) := by decide +kernel
theorem u_Jo : ∀ w ∈ u_ws "BreakingDisk$Journal" T_Jo 2, w ∈ x_tb := List.forall_mem_cons.mpr ⟨mw_70, List.forall_mem_cons.mpr ⟨mw_72, fun _ h => absurd h List.not_mem_nil⟩⟩
def T_Bd : u_T := fun k => match k with
  | 0 => ("BreakingDisk", "tape", "LBreakingDisk$Tape;", true)
  | 1 => ("BreakingDisk", "now", "LBreakingDisk$Files;", true)
  | 2 => ("BreakingDisk", "kept", "LBreakingDisk$Files;", true)
  | 3 => ("BreakingDisk", "told", "LBreakingDisk$Files;", true)
  | 4 => ("BreakingDisk", "journal", "LBreakingDisk$Journal;", true)
  | 5 => ("BreakingDisk", "currentPath", "LBreakingDisk$Bytes;", false)
  | _ => ("BreakingDisk", "allOperations", "I", false)
def t_Bd : Nat → FieldType := fun k => match k with
  | 0 => .object "BreakingDisk$Tape"
  | 1 => .object "BreakingDisk$Files"
  | 2 => .object "BreakingDisk$Files"
  | 3 => .object "BreakingDisk$Files"
  | 4 => .object "BreakingDisk$Journal"
  | 5 => .object "BreakingDisk$Bytes"
  | _ => .int
theorem n_Bd : ∀ a, a < 7 → ∀ b, b < 7 → a ≠ b → (T_Bd a).2.1 ≠ (T_Bd b).2.1 := by decide +kernel
theorem t_Bd_ok : ∀ k, k < 7 → parseFieldDescriptor (T_Bd k).2.2.1 = some (t_Bd k) := by decide +kernel
theorem u_Bd : ∀ w ∈ u_ws "BreakingDisk" T_Bd 7, w ∈ x_tb := List.forall_mem_cons.mpr ⟨mw_92, List.forall_mem_cons.mpr ⟨mw_94, List.forall_mem_cons.mpr ⟨mw_96, List.forall_mem_cons.mpr ⟨mw_98, List.forall_mem_cons.mpr ⟨mw_100, List.forall_mem_cons.mpr ⟨mw_102, List.forall_mem_cons.mpr ⟨mw_104, fun _ h => absurd h List.not_mem_nil⟩⟩⟩⟩⟩⟩⟩
def T_Mo : u_T := fun k => match k with
  | 0 => ("BreakingDiskModel", "thrown", "I", false)
  | 1 => ("BreakingDiskModel", "tape", "[B", true)
  | 2 => ("BreakingDiskModel", "path", "[B", true)
  | 3 => ("BreakingDiskModel", "tapeSize", "I", false)
  | 4 => ("BreakingDiskModel", "pathSize", "I", false)
  | 5 => ("BreakingDiskModel", "sort", "[I", true)
  | 6 => ("BreakingDiskModel", "time", "[I", true)
  | 7 => ("BreakingDiskModel", "pathLong", "[I", true)
  | 8 => ("BreakingDiskModel", "size", "[I", true)
  | 9 => ("BreakingDiskModel", "paths", "[B", true)
  | 10 => ("BreakingDiskModel", "bytes", "[B", true)
  | 11 => ("BreakingDiskModel", "many", "I", false)
  | 12 => ("BreakingDiskModel", "kept", "I", false)
  | 13 => ("BreakingDiskModel", "done", "I", false)
  | 14 => ("BreakingDiskModel", "all", "I", false)
  | 15 => ("BreakingDiskModel", "what", "[I", true)
  | 16 => ("BreakingDiskModel", "toSort", "[I", true)
  | 17 => ("BreakingDiskModel", "toTime", "[I", true)
  | 18 => ("BreakingDiskModel", "listed", "I", false)
  | 19 => ("BreakingDiskModel", "listTime", "[I", true)
  | 20 => ("BreakingDiskModel", "listLong", "[I", true)
  | 21 => ("BreakingDiskModel", "order", "[I", true)
  | _ => ("BreakingDiskModel", "listPath", "[B", true)
def t_Mo : Nat → FieldType := fun k => match k with
  | 0 => .int
  | 1 => .array .byte
  | 2 => .array .byte
  | 3 => .int
  | 4 => .int
  | 5 => .array .int
  | 6 => .array .int
  | 7 => .array .int
  | 8 => .array .int
  | 9 => .array .byte
  | 10 => .array .byte
  | 11 => .int
  | 12 => .int
  | 13 => .int
  | 14 => .int
  | 15 => .array .int
  | 16 => .array .int
  | 17 => .array .int
  | 18 => .int
  | 19 => .array .int
  | 20 => .array .int
  | 21 => .array .int
  | _ => .array .byte
theorem n_Mo : ∀ a, a < 23 → ∀ b, b < 23 → a ≠ b → (T_Mo a).2.1 ≠ (T_Mo b).2.1 := by decide +kernel
theorem t_Mo_ok : ∀ k, k < 23 → parseFieldDescriptor (T_Mo k).2.2.1 = some (t_Mo k) := by decide +kernel
theorem u_Mo : ∀ w ∈ u_ws "BreakingDiskModel" T_Mo 23, w ∈ x_tb := List.forall_mem_cons.mpr ⟨mw_483, List.forall_mem_cons.mpr ⟨mw_485, List.forall_mem_cons.mpr ⟨mw_487, List.forall_mem_cons.mpr ⟨mw_489, List.forall_mem_cons.mpr ⟨mw_491, List.forall_mem_cons.mpr ⟨mw_493, List.forall_mem_cons.mpr ⟨mw_495, List.forall_mem_cons.mpr ⟨mw_497, List.forall_mem_cons.mpr ⟨mw_499, List.forall_mem_cons.mpr ⟨mw_501, List.forall_mem_cons.mpr ⟨mw_503, List.forall_mem_cons.mpr ⟨mw_505, List.forall_mem_cons.mpr ⟨mw_507, List.forall_mem_cons.mpr ⟨mw_509, List.forall_mem_cons.mpr ⟨mw_511, List.forall_mem_cons.mpr ⟨mw_513, List.forall_mem_cons.mpr ⟨mw_515, List.forall_mem_cons.mpr ⟨mw_517, List.forall_mem_cons.mpr ⟨mw_519, List.forall_mem_cons.mpr ⟨mw_521, List.forall_mem_cons.mpr ⟨mw_523, List.forall_mem_cons.mpr ⟨mw_525, List.forall_mem_cons.mpr ⟨mw_527, fun _ h => absurd h List.not_mem_nil⟩⟩⟩⟩⟩⟩⟩⟩⟩⟩⟩⟩⟩⟩⟩⟩⟩⟩⟩⟩⟩⟩⟩
abbrev x_cl : List vw_C := [("BreakingDisk$Bytes", T_By, 1), ("BreakingDisk$Name", T_Nm, 3), ("BreakingDisk$StoredFile", T_Sf, 2), ("BreakingDisk$Operation", T_Op, 2), ("BreakingDisk$Tape", T_Tp, 2), ("BreakingDisk$Files", T_Fi, 2), ("BreakingDisk$Journal", T_Jo, 2), ("BreakingDisk", T_Bd, 7), ("BreakingDiskModel", T_Mo, 23)]
abbrev y_Bd_init : MethodName := ⟨"BreakingDisk", "<init>", "()V"⟩
abbrev w_Bd_init : List Cond := Cond.code y_Bd_init prog_1_method_1_code 1 none :: x_tb
abbrev y_Tp_init : MethodName := ⟨"BreakingDisk$Tape", "<init>", "()V"⟩
abbrev w_Tp_init : List Cond := Cond.code y_Tp_init prog_8_method_1_code 1 none :: x_tb
abbrev y_Fi_init : MethodName := ⟨"BreakingDisk$Files", "<init>", "()V"⟩
abbrev w_Fi_init : List Cond := Cond.code y_Fi_init prog_3_method_1_code 1 none :: x_tb
abbrev y_Jo_init : MethodName := ⟨"BreakingDisk$Journal", "<init>", "()V"⟩
abbrev w_Jo_init : List Cond := Cond.code y_Jo_init prog_4_method_1_code 1 none :: x_tb
abbrev y_By_init : MethodName := ⟨"BreakingDisk$Bytes", "<init>", "([B)V"⟩
abbrev w_By_init : List Cond := Cond.code y_By_init prog_2_method_1_code 2 none :: x_tb
abbrev y_Bd_put : MethodName := ⟨"BreakingDisk", "put", "(JI)Z"⟩
abbrev w_Bd_put : List Cond := Cond.code y_Bd_put prog_1_method_2_code 4 (some .boolean) :: x_tb
abbrev y_Tp_append : MethodName := ⟨"BreakingDisk$Tape", "append", "(JI)Z"⟩
abbrev w_Tp_append : List Cond := Cond.code y_Tp_append prog_8_method_2_code 5 (some .boolean) :: x_tb
abbrev y_Bd_sync : MethodName := ⟨"BreakingDisk", "sync", "()I"⟩
abbrev w_Bd_sync : List Cond := Cond.code y_Bd_sync prog_1_method_7_code 2 (some .int) :: x_tb
abbrev y_Fi_copyFrom : MethodName := ⟨"BreakingDisk$Files", "copyFrom", "(LBreakingDisk$Files;)V"⟩
abbrev w_Fi_copyFrom : List Cond := Cond.code y_Fi_copyFrom prog_3_method_7_code 3 none :: x_tb
abbrev y_Jo_clear : MethodName := ⟨"BreakingDisk$Journal", "clear", "()V"⟩
abbrev w_Jo_clear : List Cond := Cond.code y_Jo_clear prog_4_method_5_code 1 none :: x_tb
abbrev y_Bd_size : MethodName := ⟨"BreakingDisk", "size", "(II)I"⟩
abbrev w_Bd_size : List Cond := Cond.code y_Bd_size prog_1_method_9_code 4 (some .int) :: x_tb
abbrev y_Bd_nameOf : MethodName := ⟨"BreakingDisk", "nameOf", "(II)LBreakingDisk$Name;"⟩
abbrev w_Bd_nameOf : List Cond := Cond.code y_Bd_nameOf prog_1_method_18_code 3 (some (.object "BreakingDisk$Name")) :: x_tb
abbrev y_Nm_init : MethodName := ⟨"BreakingDisk$Name", "<init>", "(IILBreakingDisk$Bytes;)V"⟩
abbrev w_Nm_init : List Cond := Cond.code y_Nm_init prog_5_method_1_code 4 none :: x_tb
abbrev y_Fi_find : MethodName := ⟨"BreakingDisk$Files", "find", "(LBreakingDisk$Name;)LBreakingDisk$StoredFile;"⟩
abbrev w_Fi_find : List Cond := Cond.code y_Fi_find prog_3_method_4_code 2 (some (.object "BreakingDisk$StoredFile")) :: x_tb
abbrev y_Fi_indexOf : MethodName := ⟨"BreakingDisk$Files", "indexOf", "(LBreakingDisk$Name;)I"⟩
abbrev w_Fi_indexOf : List Cond := Cond.code y_Fi_indexOf prog_3_method_9_code 3 (some .int) :: x_tb
abbrev y_Nm_order : MethodName := ⟨"BreakingDisk$Name", "order", "(LBreakingDisk$Name;)I"⟩
abbrev w_Nm_order : List Cond := Cond.code y_Nm_order prog_5_method_2_code 2 (some .int) :: x_tb
abbrev y_It_compare : MethodName := ⟨"java/lang/Integer", "compare", "(II)I"⟩
abbrev w_It_compare : List Cond := Cond.code y_It_compare prog_16_method_40_code 2 (some .int) :: x_tb
abbrev y_By_order : MethodName := ⟨"BreakingDisk$Bytes", "order", "(LBreakingDisk$Bytes;)I"⟩
abbrev w_By_order : List Cond := Cond.code y_By_order prog_2_method_4_code 5 (some .int) :: x_tb
abbrev y_Fi_nth : MethodName := ⟨"BreakingDisk$Files", "nth", "(I)LBreakingDisk$StoredFile;"⟩
abbrev w_Fi_nth : List Cond := Cond.code y_Fi_nth prog_3_method_3_code 2 (some (.object "BreakingDisk$StoredFile")) :: x_tb
abbrev y_By_length : MethodName := ⟨"BreakingDisk$Bytes", "length", "()I"⟩
abbrev w_By_length : List Cond := Cond.code y_By_length prog_2_method_2_code 1 (some .int) :: x_tb
abbrev y_Bd_at : MethodName := ⟨"BreakingDisk", "at", "(III)I"⟩
abbrev w_Bd_at : List Cond := Cond.code y_Bd_at prog_1_method_10_code 5 (some .int) :: x_tb
abbrev y_By_byteAt : MethodName := ⟨"BreakingDisk$Bytes", "byteAt", "(I)I"⟩
abbrev w_By_byteAt : List Cond := Cond.code y_By_byteAt prog_2_method_3_code 2 (some .int) :: x_tb
abbrev y_Bd_list : MethodName := ⟨"BreakingDisk", "list", "(I)I"⟩
abbrev w_Bd_list : List Cond := Cond.code y_Bd_list prog_1_method_11_code 2 (some .int) :: x_tb
abbrev y_Bd_isSort : MethodName := ⟨"BreakingDisk", "isSort", "(I)Z"⟩
abbrev w_Bd_isSort : List Cond := Cond.code y_Bd_isSort prog_1_method_14_code 1 (some .boolean) :: x_tb
abbrev y_Fi_copySortFrom : MethodName := ⟨"BreakingDisk$Files", "copySortFrom", "(LBreakingDisk$Files;I)V"⟩
abbrev w_Fi_copySortFrom : List Cond := Cond.code y_Fi_copySortFrom prog_3_method_8_code 4 none :: x_tb
abbrev y_Bd_listed : MethodName := ⟨"BreakingDisk", "listed", "(II)I"⟩
abbrev w_Bd_listed : List Cond := Cond.code y_Bd_listed prog_1_method_12_code 4 (some .int) :: x_tb
abbrev y_Bd_count : MethodName := ⟨"BreakingDisk", "count", "(I)I"⟩
abbrev w_Bd_count : List Cond := Cond.code y_Bd_count prog_1_method_13_code 2 (some .int) :: x_tb
abbrev y_Fi_countOfSort : MethodName := ⟨"BreakingDisk$Files", "countOfSort", "(I)I"⟩
abbrev w_Fi_countOfSort : List Cond := Cond.code y_Fi_countOfSort prog_3_method_5_code 4 (some .int) :: x_tb
abbrev y_La_path : MethodName := ⟨"BreakingDiskLaw", "path", "(LBreakingDisk;[J)I"⟩
abbrev w_La_path : List Cond := Cond.codeWith y_La_path method_3_code 3 (some .int) [(0, 8, 11, 13)] :: x_tb
abbrev y_Bd_path : MethodName := ⟨"BreakingDisk", "path", "()I"⟩
abbrev w_Bd_path : List Cond := Cond.code y_Bd_path prog_1_method_3_code 1 (some .int) :: x_tb
abbrev y_Tp_take : MethodName := ⟨"BreakingDisk$Tape", "take", "()LBreakingDisk$Bytes;"⟩
abbrev w_Tp_take : List Cond := Cond.code y_Tp_take prog_8_method_3_code 2 (some (.object "BreakingDisk$Bytes")) :: x_tb
abbrev y_Ar_copyOf : MethodName := ⟨"java/util/Arrays", "copyOf", "([BI)[B"⟩
abbrev w_Ar_copyOf : List Cond := Cond.code y_Ar_copyOf prog_22_method_121_code 3 (some (.array .byte)) :: x_tb
abbrev y_Ma_min : MethodName := ⟨"java/lang/Math", "min", "(II)I"⟩
abbrev w_Ma_min : List Cond := Cond.code y_Ma_min prog_17_method_69_code 2 (some .int) :: x_tb
abbrev y_La_write : MethodName := ⟨"BreakingDiskLaw", "write", "(LBreakingDisk;II)I"⟩
abbrev w_La_write : List Cond := Cond.codeWith y_La_write method_4_code 4 (some .int) [(0, 6, 9, 19), (0, 6, 12, 21)] :: x_tb
abbrev y_Bd_write : MethodName := ⟨"BreakingDisk", "write", "(II)V"⟩
abbrev w_Bd_write : List Cond := Cond.code y_Bd_write prog_1_method_4_code 4 none :: x_tb
abbrev y_Bd_refuseWrongName : MethodName := ⟨"BreakingDisk", "refuseWrongName", "(II)V"⟩
abbrev w_Bd_refuseWrongName : List Cond := Cond.code y_Bd_refuseWrongName prog_1_method_15_code 2 none :: x_tb
abbrev y_Fi_isFull : MethodName := ⟨"BreakingDisk$Files", "isFull", "()Z"⟩
abbrev w_Fi_isFull : List Cond := Cond.code y_Fi_isFull prog_3_method_2_code 1 (some .boolean) :: x_tb
abbrev y_Bd_refuseFullJournal : MethodName := ⟨"BreakingDisk", "refuseFullJournal", "()V"⟩
abbrev w_Bd_refuseFullJournal : List Cond := Cond.code y_Bd_refuseFullJournal prog_1_method_16_code 1 none :: x_tb
abbrev y_Jo_isFull : MethodName := ⟨"BreakingDisk$Journal", "isFull", "()Z"⟩
abbrev w_Jo_isFull : List Cond := Cond.code y_Jo_isFull prog_4_method_2_code 1 (some .boolean) :: x_tb
abbrev y_Sf_init : MethodName := ⟨"BreakingDisk$StoredFile", "<init>", "(LBreakingDisk$Name;LBreakingDisk$Bytes;)V"⟩
abbrev w_Sf_init : List Cond := Cond.code y_Sf_init prog_7_method_1_code 3 none :: x_tb
abbrev y_Op_init : MethodName := ⟨"BreakingDisk$Operation", "<init>", "(LBreakingDisk$Name;LBreakingDisk$StoredFile;)V"⟩
abbrev w_Op_init : List Cond := Cond.code y_Op_init prog_6_method_1_code 3 none :: x_tb
abbrev y_Bd_perform : MethodName := ⟨"BreakingDisk", "perform", "(LBreakingDisk$Operation;)V"⟩
abbrev w_Bd_perform : List Cond := Cond.code y_Bd_perform prog_1_method_19_code 2 none :: x_tb
abbrev y_Fi_apply : MethodName := ⟨"BreakingDisk$Files", "apply", "(LBreakingDisk$Operation;)V"⟩
abbrev w_Fi_apply : List Cond := Cond.code y_Fi_apply prog_3_method_6_code 2 none :: x_tb
abbrev y_Fi_remove : MethodName := ⟨"BreakingDisk$Files", "remove", "(LBreakingDisk$Name;)V"⟩
abbrev w_Fi_remove : List Cond := Cond.code y_Fi_remove prog_3_method_10_code 4 none :: x_tb
abbrev y_Fi_insert : MethodName := ⟨"BreakingDisk$Files", "insert", "(LBreakingDisk$StoredFile;)V"⟩
abbrev w_Fi_insert : List Cond := Cond.code y_Fi_insert prog_3_method_11_code 3 none :: x_tb
abbrev y_Jo_append : MethodName := ⟨"BreakingDisk$Journal", "append", "(LBreakingDisk$Operation;)V"⟩
abbrev w_Jo_append : List Cond := Cond.code y_Jo_append prog_4_method_3_code 2 none :: x_tb
abbrev y_La_rename : MethodName := ⟨"BreakingDiskLaw", "rename", "(LBreakingDisk;IIII)I"⟩
abbrev w_La_rename : List Cond := Cond.codeWith y_La_rename method_5_code 6 (some .int) [(0, 9, 12, 19), (0, 9, 16, 13), (0, 9, 20, 21)] :: x_tb
abbrev y_Bd_rename : MethodName := ⟨"BreakingDisk", "rename", "(IIII)V"⟩
abbrev w_Bd_rename : List Cond := Cond.code y_Bd_rename prog_1_method_5_code 6 none :: x_tb
abbrev y_Bd_fileToChange : MethodName := ⟨"BreakingDisk", "fileToChange", "(II)LBreakingDisk$StoredFile;"⟩
abbrev w_Bd_fileToChange : List Cond := Cond.code y_Bd_fileToChange prog_1_method_17_code 4 (some (.object "BreakingDisk$StoredFile")) :: x_tb
abbrev y_La_delete : MethodName := ⟨"BreakingDiskLaw", "delete", "(LBreakingDisk;II)I"⟩
abbrev w_La_delete : List Cond := Cond.codeWith y_La_delete method_6_code 4 (some .int) [(0, 6, 9, 19), (0, 6, 12, 13), (0, 6, 15, 21)] :: x_tb
abbrev y_Bd_delete : MethodName := ⟨"BreakingDisk", "delete", "(II)V"⟩
abbrev w_Bd_delete : List Cond := Cond.code y_Bd_delete prog_1_method_6_code 4 none :: x_tb
abbrev y_La_breakOff : MethodName := ⟨"BreakingDiskLaw", "breakOff", "(LBreakingDisk;I[J)I"⟩
abbrev w_La_breakOff : List Cond := Cond.codeWith y_La_breakOff method_7_code 4 (some .int) [(0, 9, 12, 13)] :: x_tb
abbrev y_Bd_breakOff : MethodName := ⟨"BreakingDisk", "breakOff", "(I)I"⟩
abbrev w_Bd_breakOff : List Cond := Cond.code y_Bd_breakOff prog_1_method_8_code 3 (some .int) :: x_tb
abbrev y_Jo_replayFirst : MethodName := ⟨"BreakingDisk$Journal", "replayFirst", "(ILBreakingDisk$Files;)V"⟩
abbrev w_Jo_replayFirst : List Cond := Cond.code y_Jo_replayFirst prog_4_method_4_code 5 none :: x_tb
abbrev y_Mo_init : MethodName := ⟨"BreakingDiskModel", "<init>", "()V"⟩
abbrev w_Mo_init : List Cond := Cond.code y_Mo_init prog_10_method_1_code 1 none :: x_tb
abbrev y_Mo_thrown : MethodName := ⟨"BreakingDiskModel", "thrown", "()I"⟩
abbrev w_Mo_thrown : List Cond := Cond.code y_Mo_thrown prog_10_method_2_code 1 (some .int) :: x_tb
abbrev y_Mo_put : MethodName := ⟨"BreakingDiskModel", "put", "(JI)Z"⟩
abbrev w_Mo_put : List Cond := Cond.code y_Mo_put prog_10_method_3_code 5 (some .boolean) :: x_tb
abbrev y_Mo_path : MethodName := ⟨"BreakingDiskModel", "path", "()I"⟩
abbrev w_Mo_path : List Cond := Cond.code y_Mo_path prog_10_method_4_code 2 (some .int) :: x_tb
abbrev y_Mo_write : MethodName := ⟨"BreakingDiskModel", "write", "(II)V"⟩
abbrev w_Mo_write : List Cond := Cond.code y_Mo_write prog_10_method_15_code 6 none :: x_tb
abbrev y_Mo_findHere : MethodName := ⟨"BreakingDiskModel", "findHere", "(II)I"⟩
abbrev w_Mo_findHere : List Cond := Cond.code y_Mo_findHere prog_10_method_14_code 6 (some .int) :: x_tb
abbrev y_Mo_isName : MethodName := ⟨"BreakingDiskModel", "isName", "(II)Z"⟩
abbrev w_Mo_isName : List Cond := Cond.code y_Mo_isName prog_10_method_12_code 2 (some .boolean) :: x_tb
abbrev y_Mo_entry : MethodName := ⟨"BreakingDiskModel", "entry", "()I"⟩
abbrev w_Mo_entry : List Cond := Cond.code y_Mo_entry prog_10_method_13_code 1 (some .int) :: x_tb
abbrev y_Mo_name : MethodName := ⟨"BreakingDiskModel", "name", "(III)V"⟩
abbrev w_Mo_name : List Cond := Cond.code y_Mo_name prog_10_method_6_code 5 none :: x_tb
abbrev y_Mo_add : MethodName := ⟨"BreakingDiskModel", "add", "(IIII)V"⟩
abbrev w_Mo_add : List Cond := Cond.code y_Mo_add prog_10_method_11_code 5 none :: x_tb
abbrev y_Mo_act : MethodName := ⟨"BreakingDiskModel", "act", "(I)V"⟩
abbrev w_Mo_act : List Cond := Cond.code y_Mo_act prog_10_method_10_code 5 none :: x_tb
abbrev y_Mo_find : MethodName := ⟨"BreakingDiskModel", "find", "(III)I"⟩
abbrev w_Mo_find : List Cond := Cond.code y_Mo_find prog_10_method_8_code 5 (some .int) :: x_tb
abbrev y_Mo_hasPath : MethodName := ⟨"BreakingDiskModel", "hasPath", "(II)Z"⟩
abbrev w_Mo_hasPath : List Cond := Cond.code y_Mo_hasPath prog_10_method_7_code 5 (some .boolean) :: x_tb
abbrev y_Mo_copy : MethodName := ⟨"BreakingDiskModel", "copy", "(II)V"⟩
abbrev w_Mo_copy : List Cond := Cond.code y_Mo_copy prog_10_method_5_code 4 none :: x_tb
abbrev y_Mo_drop : MethodName := ⟨"BreakingDiskModel", "drop", "(I)V"⟩
abbrev w_Mo_drop : List Cond := Cond.code y_Mo_drop prog_10_method_9_code 2 none :: x_tb
abbrev y_Mo_rename : MethodName := ⟨"BreakingDiskModel", "rename", "(IIII)V"⟩
abbrev w_Mo_rename : List Cond := Cond.code y_Mo_rename prog_10_method_16_code 7 none :: x_tb
abbrev y_Mo_delete : MethodName := ⟨"BreakingDiskModel", "delete", "(II)V"⟩
abbrev w_Mo_delete : List Cond := Cond.code y_Mo_delete prog_10_method_17_code 4 none :: x_tb
abbrev y_Mo_sync : MethodName := ⟨"BreakingDiskModel", "sync", "()I"⟩
abbrev w_Mo_sync : List Cond := Cond.code y_Mo_sync prog_10_method_19_code 2 (some .int) :: x_tb
abbrev y_Mo_keep : MethodName := ⟨"BreakingDiskModel", "keep", "()V"⟩
abbrev w_Mo_keep : List Cond := Cond.code y_Mo_keep prog_10_method_18_code 2 none :: x_tb
abbrev y_Mo_breakOff : MethodName := ⟨"BreakingDiskModel", "breakOff", "(I)I"⟩
abbrev w_Mo_breakOff : List Cond := Cond.code y_Mo_breakOff prog_10_method_20_code 4 (some .int) :: x_tb
abbrev y_Mo_size : MethodName := ⟨"BreakingDiskModel", "size", "(II)I"⟩
abbrev w_Mo_size : List Cond := Cond.code y_Mo_size prog_10_method_21_code 4 (some .int) :: x_tb
abbrev y_Mo_at : MethodName := ⟨"BreakingDiskModel", "at", "(III)I"⟩
abbrev w_Mo_at : List Cond := Cond.code y_Mo_at prog_10_method_22_code 5 (some .int) :: x_tb
abbrev y_Mo_list : MethodName := ⟨"BreakingDiskModel", "list", "(I)I"⟩
abbrev w_Mo_list : List Cond := Cond.code y_Mo_list prog_10_method_25_code 5 (some .int) :: x_tb
abbrev y_Mo_isAhead : MethodName := ⟨"BreakingDiskModel", "isAhead", "(II)Z"⟩
abbrev w_Mo_isAhead : List Cond := Cond.code y_Mo_isAhead prog_10_method_24_code 4 (some .boolean) :: x_tb
abbrev y_Mo_rank : MethodName := ⟨"BreakingDiskModel", "rank", "(II)I"⟩
abbrev w_Mo_rank : List Cond := Cond.code y_Mo_rank prog_10_method_23_code 4 (some .int) :: x_tb
abbrev y_Mo_listed : MethodName := ⟨"BreakingDiskModel", "listed", "(II)I"⟩
abbrev w_Mo_listed : List Cond := Cond.code y_Mo_listed prog_10_method_26_code 3 (some .int) :: x_tb
abbrev y_Mo_count : MethodName := ⟨"BreakingDiskModel", "count", "(I)I"⟩
abbrev w_Mo_count : List Cond := Cond.code y_Mo_count prog_10_method_27_code 4 (some .int) :: x_tb
abbrev y_La_law : MethodName := ⟨"BreakingDiskLaw", "law", "([I)Z"⟩
def x_nf : List Cond := [Cond.methodLinkNest "BreakingDisk" 9 ⟨"BreakingDisk$Tape", "<init>", "()V"⟩ "BreakingDisk", Cond.fieldLinkNest "BreakingDisk" 53 "BreakingDisk$Tape" "length" "I" "BreakingDisk", Cond.methodLinkNest "BreakingDisk" 18 ⟨"BreakingDisk$Files", "<init>", "()V"⟩ "BreakingDisk", Cond.arrayOver (.object "BreakingDisk$StoredFile"), Cond.fieldLinkNest "BreakingDisk" 151 "BreakingDisk$Files" "length" "I" "BreakingDisk", Cond.methodLinkNest "BreakingDisk" 31 ⟨"BreakingDisk$Journal", "<init>", "()V"⟩ "BreakingDisk", Cond.arrayOver (.object "BreakingDisk$Operation"), Cond.fieldLinkNest "BreakingDisk" 119 "BreakingDisk$Journal" "length" "I" "BreakingDisk", Cond.fieldLinkNest "BreakingDisk$Files" 33 "BreakingDisk$Name" "sort" "I" "BreakingDisk", Cond.fieldLinkNest "BreakingDisk" 156 "BreakingDisk$Name" "time" "I" "BreakingDisk", Cond.fieldLinkNest "BreakingDisk" 161 "BreakingDisk$Name" "path" "LBreakingDisk$Bytes;" "BreakingDisk", Cond.castable "java/lang/IllegalArgumentException" "java/lang/IllegalArgumentException", Cond.declares ⟨"java/lang/RuntimeException", "<init>", "()V"⟩, Cond.declares ⟨"java/lang/RuntimeException", "<init>", "(Ljava/lang/String;)V"⟩, Cond.declares ⟨"java/lang/Exception", "<init>", "()V"⟩, Cond.declares ⟨"java/lang/Exception", "<init>", "(Ljava/lang/String;)V"⟩, Cond.declares ⟨"java/lang/Throwable", "<init>", "()V"⟩, Cond.declares ⟨"java/lang/Throwable", "<init>", "(Ljava/lang/String;)V"⟩, Cond.castable "[B" "java/lang/Cloneable", Cond.castable "java/lang/IndexOutOfBoundsException" "java/lang/IndexOutOfBoundsException", Cond.castable "java/lang/IllegalStateException" "java/lang/IllegalStateException", Cond.fieldLinkNest "BreakingDisk$Files" 29 "BreakingDisk$StoredFile" "name" "LBreakingDisk$Name;" "BreakingDisk", Cond.fieldLinkNest "BreakingDisk" 112 "BreakingDisk$StoredFile" "name" "LBreakingDisk$Name;" "BreakingDisk", Cond.fieldLinkNest "BreakingDisk" 116 "BreakingDisk$StoredFile" "content" "LBreakingDisk$Bytes;" "BreakingDisk", Cond.fieldLinkNest "BreakingDisk$Files" 38 "BreakingDisk$Operation" "goes" "LBreakingDisk$Name;" "BreakingDisk", Cond.fieldLinkNest "BreakingDisk$Files" 47 "BreakingDisk$Operation" "comes" "LBreakingDisk$StoredFile;" "BreakingDisk"]
theorem nf_30 : (Cond.methodLinkNest "BreakingDisk" 9 ⟨"BreakingDisk$Tape", "<init>", "()V"⟩ "BreakingDisk" : Cond) ∈ x_nf := List.mem_of_getElem? (i := 0) rfl
theorem nf_36 : (Cond.fieldLinkNest "BreakingDisk" 53 "BreakingDisk$Tape" "length" "I" "BreakingDisk" : Cond) ∈ x_nf := List.mem_of_getElem? (i := 1) rfl
theorem nf_45 : (Cond.methodLinkNest "BreakingDisk" 18 ⟨"BreakingDisk$Files", "<init>", "()V"⟩ "BreakingDisk" : Cond) ∈ x_nf := List.mem_of_getElem? (i := 2) rfl
theorem nf_50 : (Cond.arrayOver (.object "BreakingDisk$StoredFile") : Cond) ∈ x_nf := List.mem_of_getElem? (i := 3) rfl
theorem nf_53 : (Cond.fieldLinkNest "BreakingDisk" 151 "BreakingDisk$Files" "length" "I" "BreakingDisk" : Cond) ∈ x_nf := List.mem_of_getElem? (i := 4) rfl
theorem nf_61 : (Cond.methodLinkNest "BreakingDisk" 31 ⟨"BreakingDisk$Journal", "<init>", "()V"⟩ "BreakingDisk" : Cond) ∈ x_nf := List.mem_of_getElem? (i := 5) rfl
theorem nf_66 : (Cond.arrayOver (.object "BreakingDisk$Operation") : Cond) ∈ x_nf := List.mem_of_getElem? (i := 6) rfl
theorem nf_69 : (Cond.fieldLinkNest "BreakingDisk" 119 "BreakingDisk$Journal" "length" "I" "BreakingDisk" : Cond) ∈ x_nf := List.mem_of_getElem? (i := 7) rfl
theorem nf_142 : (Cond.fieldLinkNest "BreakingDisk$Files" 33 "BreakingDisk$Name" "sort" "I" "BreakingDisk" : Cond) ∈ x_nf := List.mem_of_getElem? (i := 8) rfl
theorem nf_144 : (Cond.fieldLinkNest "BreakingDisk" 156 "BreakingDisk$Name" "time" "I" "BreakingDisk" : Cond) ∈ x_nf := List.mem_of_getElem? (i := 9) rfl
theorem nf_146 : (Cond.fieldLinkNest "BreakingDisk" 161 "BreakingDisk$Name" "path" "LBreakingDisk$Bytes;" "BreakingDisk" : Cond) ∈ x_nf := List.mem_of_getElem? (i := 10) rfl
theorem nf_223 : (Cond.castable "java/lang/IllegalArgumentException" "java/lang/IllegalArgumentException" : Cond) ∈ x_nf := List.mem_of_getElem? (i := 11) rfl
theorem nf_224 : (Cond.declares ⟨"java/lang/RuntimeException", "<init>", "()V"⟩ : Cond) ∈ x_nf := List.mem_of_getElem? (i := 12) rfl
theorem nf_225 : (Cond.declares ⟨"java/lang/RuntimeException", "<init>", "(Ljava/lang/String;)V"⟩ : Cond) ∈ x_nf := List.mem_of_getElem? (i := 13) rfl
theorem nf_226 : (Cond.declares ⟨"java/lang/Exception", "<init>", "()V"⟩ : Cond) ∈ x_nf := List.mem_of_getElem? (i := 14) rfl
theorem nf_227 : (Cond.declares ⟨"java/lang/Exception", "<init>", "(Ljava/lang/String;)V"⟩ : Cond) ∈ x_nf := List.mem_of_getElem? (i := 15) rfl
theorem nf_228 : (Cond.declares ⟨"java/lang/Throwable", "<init>", "()V"⟩ : Cond) ∈ x_nf := List.mem_of_getElem? (i := 16) rfl
theorem nf_229 : (Cond.declares ⟨"java/lang/Throwable", "<init>", "(Ljava/lang/String;)V"⟩ : Cond) ∈ x_nf := List.mem_of_getElem? (i := 17) rfl
theorem nf_301 : (Cond.castable "[B" "java/lang/Cloneable" : Cond) ∈ x_nf := List.mem_of_getElem? (i := 18) rfl
theorem nf_324 : (Cond.castable "java/lang/IndexOutOfBoundsException" "java/lang/IndexOutOfBoundsException" : Cond) ∈ x_nf := List.mem_of_getElem? (i := 19) rfl
theorem nf_344 : (Cond.castable "java/lang/IllegalStateException" "java/lang/IllegalStateException" : Cond) ∈ x_nf := List.mem_of_getElem? (i := 20) rfl
theorem nf_376 : (Cond.fieldLinkNest "BreakingDisk$Files" 29 "BreakingDisk$StoredFile" "name" "LBreakingDisk$Name;" "BreakingDisk" : Cond) ∈ x_nf := List.mem_of_getElem? (i := 21) rfl
theorem nf_377 : (Cond.fieldLinkNest "BreakingDisk" 112 "BreakingDisk$StoredFile" "name" "LBreakingDisk$Name;" "BreakingDisk" : Cond) ∈ x_nf := List.mem_of_getElem? (i := 22) rfl
theorem nf_379 : (Cond.fieldLinkNest "BreakingDisk" 116 "BreakingDisk$StoredFile" "content" "LBreakingDisk$Bytes;" "BreakingDisk" : Cond) ∈ x_nf := List.mem_of_getElem? (i := 23) rfl
theorem nf_390 : (Cond.fieldLinkNest "BreakingDisk$Files" 38 "BreakingDisk$Operation" "goes" "LBreakingDisk$Name;" "BreakingDisk" : Cond) ∈ x_nf := List.mem_of_getElem? (i := 24) rfl
theorem nf_392 : (Cond.fieldLinkNest "BreakingDisk$Files" 47 "BreakingDisk$Operation" "comes" "LBreakingDisk$StoredFile;" "BreakingDisk" : Cond) ∈ x_nf := List.mem_of_getElem? (i := 25) rfl
theorem x_nf_warm : ∀ w ∈ x_nf, ∀ s U : State, s.WarmedH U.vm → va_Nw w s → va_Nw w U := List.forall_mem_cons.mpr ⟨fun _ _ h q => va_Nw.warmM h q, List.forall_mem_cons.mpr ⟨fun _ _ h q => va_Nw.warmF h q, List.forall_mem_cons.mpr ⟨fun _ _ h q => va_Nw.warmM h q, List.forall_mem_cons.mpr ⟨fun _ _ h q => va_AO.moved h.alike q, List.forall_mem_cons.mpr ⟨fun _ _ h q => va_Nw.warmF h q, List.forall_mem_cons.mpr ⟨fun _ _ h q => va_Nw.warmM h q, List.forall_mem_cons.mpr ⟨fun _ _ h q => va_AO.moved h.alike q, List.forall_mem_cons.mpr ⟨fun _ _ h q => va_Nw.warmF h q, List.forall_mem_cons.mpr ⟨fun _ _ h q => va_Nw.warmF h q, List.forall_mem_cons.mpr ⟨fun _ _ h q => va_Nw.warmF h q, List.forall_mem_cons.mpr ⟨fun _ _ h q => va_Nw.warmF h q, List.forall_mem_cons.mpr ⟨fun _ _ h q => va_Nw.warmC h q, List.forall_mem_cons.mpr ⟨fun _ _ h q => va_Nw.warmD h q, List.forall_mem_cons.mpr ⟨fun _ _ h q => va_Nw.warmD h q, List.forall_mem_cons.mpr ⟨fun _ _ h q => va_Nw.warmD h q, List.forall_mem_cons.mpr ⟨fun _ _ h q => va_Nw.warmD h q, List.forall_mem_cons.mpr ⟨fun _ _ h q => va_Nw.warmD h q, List.forall_mem_cons.mpr ⟨fun _ _ h q => va_Nw.warmD h q, List.forall_mem_cons.mpr ⟨fun _ _ h q => va_Nw.warmC h q, List.forall_mem_cons.mpr ⟨fun _ _ h q => va_Nw.warmC h q, List.forall_mem_cons.mpr ⟨fun _ _ h q => va_Nw.warmC h q, List.forall_mem_cons.mpr ⟨fun _ _ h q => va_Nw.warmF h q, List.forall_mem_cons.mpr ⟨fun _ _ h q => va_Nw.warmF h q, List.forall_mem_cons.mpr ⟨fun _ _ h q => va_Nw.warmF h q, List.forall_mem_cons.mpr ⟨fun _ _ h q => va_Nw.warmF h q, List.forall_mem_cons.mpr ⟨fun _ _ h q => va_Nw.warmF h q, fun _ h => absurd h List.not_mem_nil⟩⟩⟩⟩⟩⟩⟩⟩⟩⟩⟩⟩⟩⟩⟩⟩⟩⟩⟩⟩⟩⟩⟩⟩⟩⟩
theorem x_nf_tbl : ∀ w ∈ x_nf, w ∈ lw_tbl := List.forall_mem_cons.mpr ⟨ml_30, List.forall_mem_cons.mpr ⟨ml_36, List.forall_mem_cons.mpr ⟨ml_45, List.forall_mem_cons.mpr ⟨ml_50, List.forall_mem_cons.mpr ⟨ml_53, List.forall_mem_cons.mpr ⟨ml_61, List.forall_mem_cons.mpr ⟨ml_66, List.forall_mem_cons.mpr ⟨ml_69, List.forall_mem_cons.mpr ⟨ml_142, List.forall_mem_cons.mpr ⟨ml_144, List.forall_mem_cons.mpr ⟨ml_146, List.forall_mem_cons.mpr ⟨ml_223, List.forall_mem_cons.mpr ⟨ml_224, List.forall_mem_cons.mpr ⟨ml_225, List.forall_mem_cons.mpr ⟨ml_226, List.forall_mem_cons.mpr ⟨ml_227, List.forall_mem_cons.mpr ⟨ml_228, List.forall_mem_cons.mpr ⟨ml_229, List.forall_mem_cons.mpr ⟨ml_301, List.forall_mem_cons.mpr ⟨ml_324, List.forall_mem_cons.mpr ⟨ml_344, List.forall_mem_cons.mpr ⟨ml_376, List.forall_mem_cons.mpr ⟨ml_377, List.forall_mem_cons.mpr ⟨ml_379, List.forall_mem_cons.mpr ⟨ml_390, List.forall_mem_cons.mpr ⟨ml_392, fun _ h => absurd h List.not_mem_nil⟩⟩⟩⟩⟩⟩⟩⟩⟩⟩⟩⟩⟩⟩⟩⟩⟩⟩⟩⟩⟩⟩⟩⟩⟩⟩
def x_str : List (Nat × String) := [(58, "the tape is too long for a PATH"), (169, "no such SORT or TIME"), (88, "there are 60 files"), (173, "200 operations were done since the latest SYNC"), (175, "there is no such file"), (127, "n is below 0")]
theorem x_str_tbl : ∀ t ∈ x_str, Cond.stringRef "BreakingDisk" t.1 t.2 ∈ lw_tbl := List.forall_mem_cons.mpr ⟨ml_262, List.forall_mem_cons.mpr ⟨ml_331, List.forall_mem_cons.mpr ⟨ml_351, List.forall_mem_cons.mpr ⟨ml_366, List.forall_mem_cons.mpr ⟨ml_430, List.forall_mem_cons.mpr ⟨ml_445, fun _ h => absurd h List.not_mem_nil⟩⟩⟩⟩⟩⟩
end
section
/-! BASE: facts of single cells; stores, news and calls that tell the whole heap behind them. A contract speaks of the heap H0 at its start as a variable. -/
theorem x_P1 {D : va_G} {cl : List vw_C} {q : Nat × va_E} {H : Heap} (h : va_at D cl q H) : va_P D cl [q] H := by
  intro k x hk
  match k, hk with
  | 0, hk => cases hk; exact h
  | k + 1, hk => simp at hk
/-- H1 is H but for the cell a -/
def x_but (a : Nat) (H H1 : Heap) : Prop := H1.size = H.size ∧ ∀ q : Nat, q ≠ a → H1[q]? = H[q]?
/-- H1 is H and cells behind it -/
def x_ext (H H1 : Heap) : Prop := H.size ≤ H1.size ∧ ∀ q : Nat, q < H.size → H1[q]? = H[q]?
abbrev x_tys (A : Nat → ClassId) : List (ClassId × FieldType) := [(A 0, .byte), (A 1, .object "BreakingDisk$StoredFile"), (A 2, .object "BreakingDisk$Operation"), (A 3, .int), (A 4, .long)]
/-- what the tables say beyond the words that travel -/
def x_E (U : State) : Prop := (∀ w ∈ x_nf, va_Nw w U) ∧ ∀ t ∈ x_str, ∃ a, vk_R "BreakingDisk" t.1 t.2 a U
theorem x_E.warm {s U : State} (hW : s.WarmedH U.vm) (h : x_E s) : x_E U := ⟨fun w hw => x_nf_warm w hw s U hW (h.1 w hw), fun t ht => by
  obtain ⟨a, q⟩ := h.2 t ht
  exact ⟨a, q.warm hW⟩⟩
theorem x_E.same {s U : State} (hv : U.vm = s.vm) (h : x_E s) : x_E U := h.warm (by rw [hv]; exact State.WarmedH.refl s)
/-- a method's start: its arguments, the heap, what the tables say -/
def x_Pc (D : va_G) (A : Nat → ClassId) (av : List Value) (H0 : Heap) : Array Value → State → Prop := va_Pc av (fun U => U.heap = H0 ∧ va_K D x_cl (x_tys A) U ∧ x_E U)
/-- a method's end: its answer, and what holds of the heap -/
def x_Q (v : Option Value) (P : Heap → Prop) : Array Value → State → Outcome → State → Prop := fun _ _ oc t => oc = .returned v ∧ P t.heap
theorem x_blind {D : va_G} {A : Nat → ClassId} {av : List Value} {H0 : Heap} : FrameBlind (x_Pc D A av H0) := fun a U g mk q => by
  obtain ⟨q0, q1, q2, q3⟩ := q
  exact ⟨q0, q1, va_K.moved (u := U) (U := U.calling g mk a) (Vm.Alike.refl U.vm) q2, x_E.same (s := U) (U := U.calling g mk a) rfl q3⟩
theorem x_preS {D : va_G} {A : Nat → ClassId} {As : List Value} {H : Heap} {s : State} (hK : va_K D x_cl (x_tys A) s) (hN : x_E s) : PreS s H (x_Pc D A As H) As :=
  ⟨x_blind, fun U hU hW => ⟨rfl, hU, va_K.moved hW.alike hK, hN.warm hW⟩⟩
theorem x_preV {D : va_G} {A : Nat → ClassId} {As : List Value} {H : Heap} {s : State} {b ci : Nat} {fs : List Value} {q : vw_C} (hK : va_K D x_cl (x_tys A) s) (hN : x_E s) (h : va_at D x_cl (b, .inr (ci, fs)) H) (hc : x_cl[ci]? = some q) : PreV s H q.1 b (x_Pc D A (.ref b :: As) H) As :=
  ⟨x_blind, va_recv hK (x_P1 h) (ci := ci) (q0 := 0) hc rfl, fun U hU hW => ⟨rfl, hU, va_K.moved hW.alike hK, hN.warm hW⟩⟩
/-- the words of a call -/
theorem x_cB {R : Room} {s : State} {args : Array Value} {own : String} {index : Nat} {y : MethodName} {bytes : ByteArray} {maxL : Nat} {ret : Option FieldType} {rm : Room} {mc ms : Nat} (n : Nat) (ht : ∀ w ∈ x_tb, w.before args s = true) (hl : Cond.methodLink own index y ∈ x_tb) (hi : Cond.initialized y.cls ∈ x_tb) (hc : Cond.code y bytes maxL ret ∈ x_tb) (hrc : rm.cells = mc) (hrs : rm.slots = ms)
    (hd : y.cls ≠ "java/lang/invoke/MethodHandle" ∧ y.cls ≠ "java/lang/invoke/VarHandle" ∧ (parseMethodDescriptor y.desc).map (fun d => d.parameters.length) = some n) (hR : rm.frames + 1 ≤ R.frames ∧ 8 + (maxL + 11) + rm.locals ≤ R.locals) : CallB R s args own index y bytes maxL ret (Cond.code y bytes maxL ret :: x_tb) rm mc ms n :=
  callB_of n ht (x_goodT hc) rfl hrc hrs (ht _ hi) (ht _ hl) hd hR
theorem x_cV {R : Room} {s : State} {args : Array Value} {own C : String} {index : Nat} {y : MethodName} {bytes : ByteArray} {maxL : Nat} {ret : Option FieldType} {rm : Room} {mc ms : Nat} (n : Nat) (ht : ∀ w ∈ x_tb, w.before args s = true) (hl : Cond.methodLink own index y ∈ x_tb) (hi : Cond.initialized y.cls ∈ x_tb) (hc : Cond.code y bytes maxL ret ∈ x_tb) (hm : Cond.instanceMethod y ∈ x_tb) (hs : Cond.selects C y y ∈ x_tb) (hrc : rm.cells = mc) (hrs : rm.slots = ms)
    (hd : y.cls ≠ "java/lang/invoke/MethodHandle" ∧ y.cls ≠ "java/lang/invoke/VarHandle" ∧ (parseMethodDescriptor y.desc).map (fun d => d.parameters.length) = some n) (hR : rm.frames + 1 ≤ R.frames ∧ 8 + (maxL + 11) + rm.locals ≤ R.locals) : CallW R s args own C index y bytes maxL ret (Cond.code y bytes maxL ret :: x_tb) rm mc ms n :=
  ⟨x_cB n ht hl hi hc hrc hrs hd hR, ht _ hm, ht _ hs⟩
theorem x_cS {R : Room} {s : State} {args : Array Value} {own : String} {index : Nat} {y : MethodName} {bytes : ByteArray} {maxL : Nat} {ret : Option FieldType} {rm : Room} {mc ms : Nat} (n : Nat) (ht : ∀ w ∈ x_tb, w.before args s = true) (hl : Cond.methodLink own index y ∈ x_tb) (hi : Cond.initialized y.cls ∈ x_tb) (hc : Cond.code y bytes maxL ret ∈ x_tb) (hm : Cond.static y ∈ x_tb) (hrc : rm.cells = mc) (hrs : rm.slots = ms)
    (hd : y.cls ≠ "java/lang/invoke/MethodHandle" ∧ y.cls ≠ "java/lang/invoke/VarHandle" ∧ (parseMethodDescriptor y.desc).map (fun d => d.parameters.length) = some n) (hR : rm.frames + 1 ≤ R.frames ∧ 8 + (maxL + 11) + rm.locals ≤ R.locals) : CallB R s args own index y bytes maxL ret (Cond.code y bytes maxL ret :: x_tb) rm mc ms n ∧ (Cond.static y).before args s = true :=
  ⟨x_cB n ht hl hi hc hrc hrs hd hR, ht _ hm⟩
theorem x_cI {R : Room} {s : State} {args : Array Value} {own : String} {index : Nat} {y : MethodName} {bytes : ByteArray} {maxL : Nat} {rm : Room} {mc ms : Nat} (n : Nat) (ht : ∀ w ∈ x_tb, w.before args s = true) (hl : Cond.methodLink own index y ∈ x_tb) (hi : Cond.initialized y.cls ∈ x_tb) (hc : Cond.code y bytes maxL none ∈ x_tb) (hm : Cond.instanceMethod y ∈ x_tb) (hn : y.name = "<init>") (hrc : rm.cells = mc) (hrs : rm.slots = ms)
    (hd : y.cls ≠ "java/lang/invoke/MethodHandle" ∧ y.cls ≠ "java/lang/invoke/VarHandle" ∧ (parseMethodDescriptor y.desc).map (fun d => d.parameters.length) = some n) (hR : rm.frames + 1 ≤ R.frames ∧ 8 + (maxL + 11) + rm.locals ≤ R.locals) : CallB R s args own index y bytes maxL none (Cond.code y bytes maxL none :: x_tb) rm mc ms n ∧ y.name = "<init>" ∧ (Cond.instanceMethod y).before args s = true :=
  ⟨x_cB n ht hl hi hc hrc hrs hd hR, hn, ht _ hm⟩
/-- what every body starts with -/
theorem x_start {l : Launch} {y : MethodName} {wd : Cond} {rm : Room} {cc : ByteArray} {maxL : Nat} {ret : Option FieldType} {p : Program} {e : Env} {s : State} {m : MethodId} {args : Array Value} {below : List Frame} {meth : Method} {c : Code} {s₁ : State} (B : BodyLoose p l y (headSpec (wd :: x_tb) rm) cc maxL ret e s m args below meth c s₁) :
    p.tables.exec = Jvm.exec ∧ c.code = cc ∧ meth.sig.returnType = ret ∧ (∀ w ∈ x_tb, w.before args s = true) ∧ s.vm.findClass y.cls = some m.cls ∧ meth.locks = false :=
  ⟨B.exec, B.bytes, B.returns, fun w h => atoms_spec (ws := wd :: x_tb) B.pre w (List.mem_cons_of_mem _ h), findClass_of_methodNamed B.named, B.notSynchronized⟩
section XB
variable {p : Program} {l : Launch} {e : Env} {R : Room} {s : State} {m : MethodId} {args : Array Value} {below : List Frame} {meth : Method} {c : Code} {H : Heap} {locs : List Loc} {cells slots : Nat} {Q : State → Prop}
variable {cc : ByteArray} {pc : Nat} {ls : Array Slot} {rest : List Value} {D : va_G} {cl : List vw_C} {a : Nat} {tys : List (ClassId × FieldType)} {F : Nat → Prop}
theorem x_locs {i : Nat} (hL : ∀ q ∈ locs, F q.base) (ha : F a) : ∀ q ∈ locs ++ [(⟨a, i⟩ : Loc)], F q.base := by
  intro q hq
  rcases List.mem_append.mp hq with h | h
  · exact hL q h
  · rw [List.mem_singleton.mp h]
    exact ha
theorem x_get (hexec : p.tables.exec = Jvm.exec) (hb : c.code = cc) {own ref C : String} {T : u_T} {N ci index : Nat} {Ts : List Cond} (hts : ∀ w ∈ Ts, w.before args s = true) (hin : ∀ w ∈ u_ws C T N, w ∈ Ts) (hown : s.vm.findClass own = some m.cls) (hK : va_K D cl tys s) {fs : List Value} (h : va_at D cl (a, .inr (ci, fs)) H) (hc : cl[ci]? = some (C, T, N)) (k : Nat) (hk : k < N) (hlink : (Cond.fieldLink own index ref (T k).2.1 (T k).2.2.1).before args s = true) (hsame : ∀ x, s.fieldFound? (T k).1 (T k).2.1 (T k).2.2.1 = some x → s.fieldFound? ref (T k).2.1 (T k).2.2.1 = some x) {v : Value} (hv : fs[k]? = some v) (hdg : decode cc pc = .ok (.getfield index, 3))
    (kk : W p l e R s m args below meth c H locs cells slots Q (F0 m (pc + 3) ls (v :: rest))) : W p l e R s m args below meth c H locs cells slots Q (F0 m pc ls (.ref a :: rest)) :=
  va_get hexec hb hts hin hown hK (x_P1 h) 0 rfl hc k hk hlink hsame hv hdg kk
theorem x_getN (hexec : p.tables.exec = Jvm.exec) (hb : c.code = cc) {own ref C host : String} {T : u_T} {N ci index : Nat} {Ts : List Cond} (hts : ∀ w ∈ Ts, w.before args s = true) (hin : ∀ w ∈ u_ws C T N, w ∈ Ts) (hown : s.vm.findClass own = some m.cls) (hK : va_K D cl tys s) {fs : List Value} (h : va_at D cl (a, .inr (ci, fs)) H) (hc : cl[ci]? = some (C, T, N)) (k : Nat) (hk : k < N) (hlink : (Cond.fieldLinkNest own index ref (T k).2.1 (T k).2.2.1 host).before args s = true) (hsame : ∀ x, s.fieldFound? (T k).1 (T k).2.1 (T k).2.2.1 = some x → s.fieldFound? ref (T k).2.1 (T k).2.2.1 = some x) {v : Value} (hv : fs[k]? = some v) (hdg : decode cc pc = .ok (.getfield index, 3))
    (kk : W p l e R s m args below meth c H locs cells slots Q (F0 m (pc + 3) ls (v :: rest))) : W p l e R s m args below meth c H locs cells slots Q (F0 m pc ls (.ref a :: rest)) :=
  va_getN hexec hb hts hin hown hK (x_P1 h) 0 rfl hc k hk hlink hsame hv hdg kk
theorem x_put (hexec : p.tables.exec = Jvm.exec) (hb : c.code = cc) {own ref C : String} {T : u_T} {N ci index : Nat} {Ts : List Cond} (hts : ∀ w ∈ Ts, w.before args s = true) (hin : ∀ w ∈ u_ws C T N, w ∈ Ts) (ty0 : Nat → FieldType) (hty : ∀ k, k < N → parseFieldDescriptor (T k).2.2.1 = some (ty0 k)) (hnm : ∀ a, a < N → ∀ b, b < N → a ≠ b → (T a).2.1 ≠ (T b).2.1) (hown : s.vm.findClass own = some m.cls) (hK : va_K D cl tys s) {fs : List Value} (h : va_at D cl (a, .inr (ci, fs)) H) (hL : ∀ q ∈ locs, F q.base) (ha : F a) (hc : cl[ci]? = some (C, T, N)) (k : Nat) (hk : k < N) (hlink : (Cond.fieldLink own index ref (T k).2.1 (T k).2.2.1).before args s = true) (hsame : ∀ x, s.fieldFound? (T k).1 (T k).2.1 (T k).2.2.1 = some x → s.fieldFound? ref (T k).2.1 (T k).2.2.1 = some x) (hfin : (T k).2.2.2 = false) {ty : FieldType} {v : Value} (hd : parseFieldDescriptor (T k).2.2.1 = some ty) (hn : narrow ty v = v) (hfit : fits ty v = true) (hl : k < fs.length)
    (hdg : decode cc pc = .ok (.putfield index, 3)) (kk : ∀ (H1 : Heap) (locs1 : List Loc), va_at D cl (a, .inr (ci, fs.set k v)) H1 → x_but a H H1 → (∀ q ∈ locs1, F q.base) → W p l e R s m args below meth c H1 locs1 cells slots Q (F0 m (pc + 3) ls rest)) : W p l e R s m args below meth c H locs cells slots Q (F0 m pc ls (v :: .ref a :: rest)) := by
  have hap := va_apart (own := own) hts hin ty0 hty hnm hK hc
  obtain ⟨r, h1, cell, q1, q2, q3, q4⟩ := h
  have hr : r = (C, T, N) := Option.some.inj (h1.symm.trans hc)
  subst hr
  obtain ⟨hS, hfc, kC, hkC, hkind⟩ := hK.1 ci _ hc
  obtain ⟨cf, kf, fi, f, hi, hsl⟩ := hS k hk
  have hlay := hts _ (hin _ (u_in_lay hk))
  unfold u_lay at hlay
  rw [if_neg (by rw [hfin]; decide)] at hlay
  have hst := (u_facts hfc hkC (u_lays hts hin hk) hi).1
  have h6 := u_store hfc hkC hkind hlay hi hd hn hfit
  refine W.putK hexec hb (f := f) ⟨hown, hlink, ⟨_, _, _, hsame _ hi⟩, hst⟩ (by rw [q2]; exact h6) q1 q3 (by rw [hsl]; exact k2_hasslot (q4 k hk)) rfl rfl hdg fun H' e1 e2 e3 => ?_
  rw [hsl] at e1 ⊢
  exact kk H' _ ⟨_, hc, t_OB.to (V := updV (vp_V fs) k v) ⟨_, e1, q2, q3, t_set q4 hap hk v⟩ (fun j _ => vp_updV_set hl v j)⟩ ⟨e2, e3⟩ (x_locs hL ha)
theorem x_putN (hexec : p.tables.exec = Jvm.exec) (hb : c.code = cc) {own ref C host : String} {T : u_T} {N ci index : Nat} {Ts : List Cond} (hts : ∀ w ∈ Ts, w.before args s = true) (hin : ∀ w ∈ u_ws C T N, w ∈ Ts) (ty0 : Nat → FieldType) (hty : ∀ k, k < N → parseFieldDescriptor (T k).2.2.1 = some (ty0 k)) (hnm : ∀ a, a < N → ∀ b, b < N → a ≠ b → (T a).2.1 ≠ (T b).2.1) (hown : s.vm.findClass own = some m.cls) (hK : va_K D cl tys s) {fs : List Value} (h : va_at D cl (a, .inr (ci, fs)) H) (hL : ∀ q ∈ locs, F q.base) (ha : F a) (hc : cl[ci]? = some (C, T, N)) (k : Nat) (hk : k < N) (hlink : (Cond.fieldLinkNest own index ref (T k).2.1 (T k).2.2.1 host).before args s = true) (hsame : ∀ x, s.fieldFound? (T k).1 (T k).2.1 (T k).2.2.1 = some x → s.fieldFound? ref (T k).2.1 (T k).2.2.1 = some x) (hfin : (T k).2.2.2 = false) {ty : FieldType} {v : Value} (hd : parseFieldDescriptor (T k).2.2.1 = some ty) (hn : narrow ty v = v) (hfit : fits ty v = true) (hl : k < fs.length)
    (hdg : decode cc pc = .ok (.putfield index, 3)) (kk : ∀ (H1 : Heap) (locs1 : List Loc), va_at D cl (a, .inr (ci, fs.set k v)) H1 → x_but a H H1 → (∀ q ∈ locs1, F q.base) → W p l e R s m args below meth c H1 locs1 cells slots Q (F0 m (pc + 3) ls rest)) : W p l e R s m args below meth c H locs cells slots Q (F0 m pc ls (v :: .ref a :: rest)) := by
  have hap := va_apart (own := own) hts hin ty0 hty hnm hK hc
  obtain ⟨r, h1, cell, q1, q2, q3, q4⟩ := h
  have hr : r = (C, T, N) := Option.some.inj (h1.symm.trans hc)
  subst hr
  obtain ⟨hS, hfc, kC, hkC, hkind⟩ := hK.1 ci _ hc
  obtain ⟨cf, kf, fi, f, hi, hsl⟩ := hS k hk
  have hlay := hts _ (hin _ (u_in_lay hk))
  unfold u_lay at hlay
  rw [if_neg (by rw [hfin]; decide)] at hlay
  have hst := (u_facts hfc hkC (u_lays hts hin hk) hi).1
  have h6 := u_store hfc hkC hkind hlay hi hd hn hfit
  refine va_WputK hexec hb (f := f) hown hlink (hsame _ hi) hst (by rw [q2]; exact h6) q1 q3 (by rw [hsl]; exact k2_hasslot (q4 k hk)) rfl rfl hdg fun H' e1 e2 e3 => ?_
  rw [hsl] at e1 ⊢
  exact kk H' _ ⟨_, hc, t_OB.to (V := updV (vp_V fs) k v) ⟨_, e1, q2, q3, t_set q4 hap hk v⟩ (fun j _ => vp_updV_set hl v j)⟩ ⟨e2, e3⟩ (x_locs hL ha)
theorem x_putF (hexec : p.tables.exec = Jvm.exec) (hb : c.code = cc) {own ref C : String} {T : u_T} {N ci index : Nat} {Ts : List Cond} (hts : ∀ w ∈ Ts, w.before args s = true) (hin : ∀ w ∈ u_ws C T N, w ∈ Ts) (ty0 : Nat → FieldType) (hty : ∀ k, k < N → parseFieldDescriptor (T k).2.2.1 = some (ty0 k)) (hnm : ∀ a, a < N → ∀ b, b < N → a ≠ b → (T a).2.1 ≠ (T b).2.1) (hown : s.vm.findClass own = some m.cls) (hK : va_K D cl tys s) {fs : List Value} (h : va_at D cl (a, .inr (ci, fs)) H) (hL : ∀ q ∈ locs, F q.base) (ha : F a) (hc : cl[ci]? = some (C, T, N)) (k : Nat) (hk : k < N) (hlink : (Cond.fieldLink own index ref (T k).2.1 (T k).2.2.1).before args s = true) (hsame : ∀ x, s.fieldFound? (T k).1 (T k).2.1 (T k).2.2.1 = some x → s.fieldFound? ref (T k).2.1 (T k).2.2.1 = some x) (hfin : (T k).2.2.2 = true) (hin2 : meth.name = "<init>") (hdecl : (T k).1 = own) {ty : FieldType} {v : Value} (hd : parseFieldDescriptor (T k).2.2.1 = some ty) (hn : narrow ty v = v) (hfit : fits ty v = true) (hl : k < fs.length)
    (hdg : decode cc pc = .ok (.putfield index, 3)) (kk : ∀ (H1 : Heap) (locs1 : List Loc), va_at D cl (a, .inr (ci, fs.set k v)) H1 → x_but a H H1 → (∀ q ∈ locs1, F q.base) → W p l e R s m args below meth c H1 locs1 cells slots Q (F0 m (pc + 3) ls rest)) : W p l e R s m args below meth c H locs cells slots Q (F0 m pc ls (v :: .ref a :: rest)) := by
  have hap := va_apart (own := own) hts hin ty0 hty hnm hK hc
  obtain ⟨r, h1, cell, q1, q2, q3, q4⟩ := h
  have hr : r = (C, T, N) := Option.some.inj (h1.symm.trans hc)
  subst hr
  obtain ⟨hS, hfc, kC, hkC, hkind⟩ := hK.1 ci _ hc
  obtain ⟨cf, kf, fi, f, hi, hsl⟩ := hS k hk
  have hlay := hts _ (hin _ (u_in_lay hk))
  unfold u_lay at hlay
  rw [if_pos hfin] at hlay
  have hst := (u_facts hfc hkC (u_lays hts hin hk) hi).1
  have hcf : m.cls = cf := by
    obtain ⟨_, _, c', _, _, _, -, -, hf', -, -, -, hown2, -⟩ := Cond.laysFinal_spec hlay
    have e1 : c' = cf := by have := hi.symm.trans hf'; simp at this; exact this.1.symm
    rw [hdecl] at hown2
    rw [← e1]; exact Option.some.inj (hown.symm.trans hown2)
  have h6 := u_fits hfc hkC hkind (Or.inr hlay) hi hd hn hfit
  refine W.putFinK hexec hb hown hlink (hsame _ hi) hst hcf hin2 (by rw [q2]; exact h6) q1 q3 (by rw [hsl]; exact k2_hasslot (q4 k hk)) rfl rfl hdg fun H' e1 e2 e3 => ?_
  rw [hsl] at e1 ⊢
  exact kk H' _ ⟨_, hc, t_OB.to (V := updV (vp_V fs) k v) ⟨_, e1, q2, q3, t_set q4 hap hk v⟩ (fun j _ => vp_updV_set hl v j)⟩ ⟨e2, e3⟩ (x_locs hL ha)
theorem x_iald (hexec : p.tables.exec = Jvm.exec) (hb : c.code = cc) (hK : va_K D cl tys s) (t0 : Nat) {cA : ClassId} {n : Nat} {f : Nat → Int32} (h : va_at D cl (a, .inl (cA, n, .inl f)) H) (ht : tys[t0]? = some (cA, .int)) {i : Int32} (hin : vp_in i n) (hdg : decode cc pc = .ok (.iaload, 1))
    (kk : W p l e R s m args below meth c H locs cells slots Q (F0 m (pc + 1) ls (.int (f i.toNatClampNeg) :: rest))) : W p l e R s m args below meth c H locs cells slots Q (F0 m pc ls (.int i :: .ref a :: rest)) := va_iald hexec hb hK (x_P1 h) 0 t0 rfl ht hin hdg kk
theorem x_bald (hexec : p.tables.exec = Jvm.exec) (hb : c.code = cc) (hK : va_K D cl tys s) (t0 : Nat) {cA : ClassId} {n : Nat} {f : Nat → Int32} (h : va_at D cl (a, .inl (cA, n, .inl f)) H) (ht : tys[t0]? = some (cA, .byte)) {i : Int32} (hin : vp_in i n) (hdg : decode cc pc = .ok (.baload, 1))
    (kk : W p l e R s m args below meth c H locs cells slots Q (F0 m (pc + 1) ls (.int (f i.toNatClampNeg) :: rest))) : W p l e R s m args below meth c H locs cells slots Q (F0 m pc ls (.int i :: .ref a :: rest)) := va_bald hexec hb hK (x_P1 h) 0 t0 rfl ht hin hdg kk
theorem x_lald (hexec : p.tables.exec = Jvm.exec) (hb : c.code = cc) (hK : va_K D cl tys s) (t0 : Nat) {cA : ClassId} {n : Nat} {f : Nat → Int64} (h : va_at D cl (a, .inl (cA, n, .inr (.inl f))) H) (ht : tys[t0]? = some (cA, .long)) {i : Int32} (hin : vp_in i n) (hdg : decode cc pc = .ok (.laload, 1))
    (kk : W p l e R s m args below meth c H locs cells slots Q (F0 m (pc + 1) ls (.long (f i.toNatClampNeg) :: rest))) : W p l e R s m args below meth c H locs cells slots Q (F0 m pc ls (.int i :: .ref a :: rest)) := va_lald hexec hb hK (x_P1 h) 0 t0 rfl ht hin hdg kk
theorem x_aldq (hexec : p.tables.exec = Jvm.exec) (hb : c.code = cc) (hK : va_K D cl tys s) (t0 : Nat) {cA : ClassId} {C : String} {n : Nat} {f : Nat → Option Nat} (h : va_at D cl (a, .inl (cA, n, .inr (.inr (.inr (.inr f))))) H) (ht : tys[t0]? = some (cA, .object C)) {i : Int32} (hin : vp_in i n) {r : Value} (hr : va_rf (f i.toNatClampNeg) = r) (hdg : decode cc pc = .ok (.aaload, 1))
    (kk : W p l e R s m args below meth c H locs cells slots Q (F0 m (pc + 1) ls (r :: rest))) : W p l e R s m args below meth c H locs cells slots Q (F0 m pc ls (.int i :: .ref a :: rest)) := va_aldq hexec hb hK (x_P1 h) 0 t0 rfl ht hin hdg (by rw [hr]; exact kk)
theorem x_alen (hexec : p.tables.exec = Jvm.exec) (hb : c.code = cc) (hK : va_K D cl tys s) (t0 : Nat) {cA : ClassId} {x : vp_A} (h : va_at D cl (a, .inl (cA, x)) H) {ty : FieldType} (ht : tys[t0]? = some (cA, ty)) {v : Int32} (hv : Int32.ofNat x.1 = v) (hdg : decode cc pc = .ok (.arraylength, 1))
    (kk : W p l e R s m args below meth c H locs cells slots Q (F0 m (pc + 1) ls (.int v :: rest))) : W p l e R s m args below meth c H locs cells slots Q (F0 m pc ls (.ref a :: rest)) := va_alen hexec hb hK (x_P1 h) 0 t0 rfl ht hv hdg kk
theorem x_iast (hexec : p.tables.exec = Jvm.exec) (hb : c.code = cc) (hK : va_K D cl tys s) (t0 : Nat) {cA : ClassId} {n : Nat} {f : Nat → Int32} (h : va_at D cl (a, .inl (cA, n, .inl f)) H) (hL : ∀ q ∈ locs, F q.base) (ha : F a) (ht : tys[t0]? = some (cA, .int)) {i x : Int32} (hin : vp_in i n) (hdg : decode cc pc = .ok (.iastore, 1))
    (kk : ∀ (H1 : Heap) (locs1 : List Loc), va_at D cl (a, .inl (cA, n, .inl (upd f i.toNatClampNeg x))) H1 → x_but a H H1 → (∀ q ∈ locs1, F q.base) → W p l e R s m args below meth c H1 locs1 cells slots Q (F0 m (pc + 1) ls rest)) : W p l e R s m args below meth c H locs cells slots Q (F0 m pc ls (.int x :: .int i :: .ref a :: rest)) := by
  refine W.iast hexec hb h ((hK.2 t0 _ ht).1 n (fun j => .int (f j))) (fun q => by cases q) (by show ¬ (i < 0 ∨ (arrV _ _ _).slots.size ≤ _); rw [arrV_size]; exact hin) rfl rfl hdg fun H1 e z oq => ?_
  refine kk H1 _ ?_ ⟨z, oq⟩ (x_locs hL ha)
  show H1[a]? = some (vp_cell _ _)
  rw [e]
  rw [vp_cell_i, vp_cell_i, arrV_store]
  congr 2
  funext q
  by_cases hq : q = i.toNatClampNeg
  · subst hq
    simp [updV, upd]
  · simp [updV, upd, hq]
theorem x_bast (hexec : p.tables.exec = Jvm.exec) (hb : c.code = cc) (hK : va_K D cl tys s) (t0 : Nat) {cA : ClassId} {n : Nat} {f : Nat → Int32} (h : va_at D cl (a, .inl (cA, n, .inl f)) H) (hL : ∀ q ∈ locs, F q.base) (ha : F a) (ht : tys[t0]? = some (cA, .byte)) {i x : Int32} (hin : vp_in i n) (hdg : decode cc pc = .ok (.bastore, 1))
    (kk : ∀ (H1 : Heap) (locs1 : List Loc), va_at D cl (a, .inl (cA, n, .inl (upd f i.toNatClampNeg (vp_nar .byte x)))) H1 → x_but a H H1 → (∀ q ∈ locs1, F q.base) → W p l e R s m args below meth c H1 locs1 cells slots Q (F0 m (pc + 1) ls rest)) : W p l e R s m args below meth c H locs cells slots Q (F0 m pc ls (.int x :: .int i :: .ref a :: rest)) := by
  refine W.bast hexec hb h ((hK.2 t0 _ ht).1 n (fun j => .int (f j))) (fun q => by cases q) (by show ¬ (i < 0 ∨ (arrV _ _ _).slots.size ≤ _); rw [arrV_size]; exact hin) rfl rfl hdg fun H1 e z oq => ?_
  refine kk H1 _ ?_ ⟨z, oq⟩ (x_locs hL ha)
  show H1[a]? = some (vp_cell _ _)
  rw [e]
  rw [vp_cell_i, vp_cell_i, arrV_store]
  congr 2
  funext q
  by_cases hq : q = i.toNatClampNeg
  · subst hq
    simp [updV, upd, vp_nar]
    try rfl
  · simp [updV, upd, hq]
theorem x_last (hexec : p.tables.exec = Jvm.exec) (hb : c.code = cc) (hK : va_K D cl tys s) (t0 : Nat) {cA : ClassId} {n : Nat} {f : Nat → Int64} (h : va_at D cl (a, .inl (cA, n, .inr (.inl f))) H) (hL : ∀ q ∈ locs, F q.base) (ha : F a) (ht : tys[t0]? = some (cA, .long)) {i : Int32} {x : Int64} (hin : vp_in i n) (hdg : decode cc pc = .ok (.lastore, 1))
    (kk : ∀ (H1 : Heap) (locs1 : List Loc), va_at D cl (a, .inl (cA, n, .inr (.inl (vp_updL f i.toNatClampNeg x)))) H1 → x_but a H H1 → (∀ q ∈ locs1, F q.base) → W p l e R s m args below meth c H1 locs1 cells slots Q (F0 m (pc + 1) ls rest)) : W p l e R s m args below meth c H locs cells slots Q (F0 m pc ls (.long x :: .int i :: .ref a :: rest)) := by
  refine W.last hexec hb h ((hK.2 t0 _ ht).1 n (fun j => .long (f j))) (fun q => by cases q) (by show ¬ (i < 0 ∨ (arrV _ _ _).slots.size ≤ _); rw [arrV_size]; exact hin) rfl rfl hdg fun H1 e z oq => ?_
  refine kk H1 _ ?_ ⟨z, oq⟩ (x_locs hL ha)
  show H1[a]? = some (vp_cell _ _)
  rw [e]
  rw [vp_cell_l, vp_cell_l, arrV_store]
  congr 2
  funext q
  by_cases hq : q = i.toNatClampNeg
  · subst hq
    simp [updV, vp_updL]
  · simp [updV, vp_updL, hq]
/-- a pooled object of the array's own component class into an array of references -/
theorem x_astq (hexec : p.tables.exec = Jvm.exec) (hb : c.code = cc) (hK : va_K D cl tys s) (t0 ci : Nat) {cA : ClassId} {r : vw_C} {n v : Nat} {vs : List Value} {f : Nat → Option Nat} (h : va_at D cl (a, .inl (cA, n, .inr (.inr (.inr (.inr f))))) H) (hL : ∀ q ∈ locs, F q.base) (ha : F a) (ht : tys[t0]? = some (cA, .object r.1)) (hv : va_at D cl (v, .inr (ci, vs)) H) (hc : cl[ci]? = some r) {i : Int32} (hin : vp_in i n) (hdg : decode cc pc = .ok (.aastore, 1))
    (kk : ∀ (H1 : Heap) (locs1 : List Loc), va_at D cl (a, .inl (cA, n, .inr (.inr (.inr (.inr (va_up f i.toNatClampNeg (some v))))))) H1 → x_but a H H1 → (∀ q ∈ locs1, F q.base) → W p l e R s m args below meth c H1 locs1 cells slots Q (F0 m (pc + 1) ls rest)) : W p l e R s m args below meth c H locs cells slots Q (F0 m pc ls (.ref v :: .int i :: .ref a :: rest)) := by
  have hlt : i.toNatClampNeg < n := Nat.not_le.mp fun q => hin (Or.inr q)
  have h0 : ¬ i < 0 := fun q => hin (Or.inl q)
  obtain ⟨r', hr', cellV, g1, g2, g3, -⟩ := hv
  have hcls := (hK.1 ci r hc).2
  obtain ⟨kA, comp, k1, k2, k3, -⟩ := (hK.2 t0 _ ht).2
  have hcomp : comp = D.1 ci := Option.some.inj (k3.symm.trans hcls.1)
  subst hcomp
  obtain ⟨kC, hkC, -⟩ := hcls.2
  refine W.aast hexec hb h (fun q h => by cases h) (fun h => by cases h) k1 k2 rfl hkC ⟨h0, by show _ < (arrV _ _ _).slots.size; rw [arrV_size]; exact hlt⟩ g1 (fun q h => by rw [g3] at h; cases h) (by rw [g2]; exact hkC) (by rw [g2]; exact va_assign hcls) rfl rfl hdg fun H1 e z oq => ?_
  refine kk H1 _ ?_ ⟨z, oq⟩ (x_locs hL ha)
  show H1[a]? = some (vp_cell _ _)
  rw [e]
  rw [vp_cell_q, vp_cell_q, arrV_store]
  congr 2
  funext q
  by_cases hq : q = i.toNatClampNeg
  · subst hq
    simp [updV, va_up, va_rf]
  · simp [updV, va_up, hq]
/-- a new object: at the heap's end -/
theorem x_new (hexec : p.tables.exec = Jvm.exec) (hb : c.code = cc) {own C : String} {T : u_T} {N ci index : Nat} {Ts : List Cond} (hts : ∀ w ∈ Ts, w.before args s = true) (hin : ∀ w ∈ u_ws C T N, w ∈ Ts) (ty : Nat → FieldType) (hty : ∀ k, k < N → parseFieldDescriptor (T k).2.2.1 = some (ty k)) (hown : s.vm.findClass own = some m.cls) (hcl : (Cond.classLink own index C).before args s = true) (hinst : (Cond.instantiable C N).before args s = true) (hini : (Cond.initialized C).before args s = true)
    (hK : va_K D cl tys s) (hc : cl[ci]? = some (C, T, N)) {fs : List Value} (hfs : ∀ j, j < N → defaultValue (ty j) = vp_V fs j) (hcells : cells + 1 ≤ R.cells) (hslots : slots + N ≤ R.slots) (hdg : decode cc pc = .ok (.new index, 3))
    (kk : ∀ (H1 : Heap), va_at D cl (H.size, .inr (ci, fs)) H1 → H1.size = H.size + 1 → (∀ q : Nat, q < H.size → H1[q]? = H[q]?) →
      W p l e R s m args below meth c H1 locs (cells + 1) (slots + N) Q (F0 m (pc + 3) ls (.ref H.size :: rest))) : W p l e R s m args below meth c H locs cells slots Q (F0 m pc ls rest) := by
  have hKn := hK.1 ci _ hc
  refine W.newcK hexec hb hown hcl hinst hini rfl hdg hcells hslots hKn.2.1 rfl fun H1 kC hkC e1 z1 o1 => ?_
  exact kk H1 ⟨_, hc, (u_born ty hts hin hKn hkC e1 hty).to hfs⟩ z1 o1
theorem x_newa (hexec : p.tables.exec = Jvm.exec) (hb : c.code = cc) {atype : ArrayType} (harr : (Cond.arrayClass (newarray.typeOf atype)).before args s = true) {ty : FieldType} (hty : newarray.typeOf atype = ty) (hK : va_K D cl tys s) (t0 : Nat) {cA : ClassId} (ht : tys[t0]? = some (cA, ty)) (hno : ∀ C, ty ≠ .object C)
    {n : Int32} {N' : Nat} {a0 : vp_A} (ha : vp_cell cA a0 = arrV cA N' (fun _ => defaultValue ty)) (hn : ¬ n < 0) (hN : n.toNatClampNeg = N') (hbytes : N' * componentBytes ty ≤ 536870912) (hcells : cells + 1 ≤ R.cells) (hslots : slots + N' ≤ R.slots) (hdg : decode cc pc = .ok (.newarray atype, 2))
    (kk : ∀ (H1 : Heap), va_at D cl (H.size, .inl (cA, a0)) H1 → H1.size = H.size + 1 → (∀ q : Nat, q < H.size → H1[q]? = H[q]?) →
      W p l e R s m args below meth c H1 locs (cells + 1) (slots + N') Q (F0 m (pc + 2) ls (.ref H.size :: rest))) : W p l e R s m args below meth c H locs cells slots Q (F0 m pc ls (.int n :: rest)) := by
  subst hty
  refine va_newaK hexec hb harr rfl hdg rfl hn hN hbytes hcells hslots rfl fun H1 cA' e1 z1 o1 hAr hNm => ?_
  have hcA : cA' = cA := by
    have h2 := (hK.2 t0 _ ht).2
    have h3 : s.vm.findClass ("[" ++ (newarray.typeOf atype).toString) = some cA := by
      cases atype <;> exact h2
    exact Option.some.inj (hNm.symm.trans h3)
  subst hcA
  refine kk H1 ?_ z1 o1
  show H1[H.size]? = some (vp_cell _ _)
  rw [ha]
  exact e1
theorem x_newq (hexec : p.tables.exec = Jvm.exec) (hb : c.code = cc) {own C : String} {index : Nat} (hown : s.vm.findClass own = some m.cls) (hclink : (Cond.classLink own index C).before args s = true) (hover : (Cond.arrayOver (.object C)).before args s = true) (hK : va_K D cl tys s) (t0 : Nat) {cA : ClassId} (ht : tys[t0]? = some (cA, .object C))
    {n : Int32} {N' : Nat} (hn : ¬ n < 0) (hN : n.toNatClampNeg = N') (hbytes : N' * 4 ≤ 536870912) (hcells : cells + 1 ≤ R.cells) (hslots : slots + N' ≤ R.slots) (hdg : decode cc pc = .ok (.anewarray index, 3))
    (kk : ∀ (H1 : Heap), va_at D cl (H.size, .inl (cA, N', .inr (.inr (.inr (.inr (fun _ => none)))))) H1 → H1.size = H.size + 1 → (∀ q : Nat, q < H.size → H1[q]? = H[q]?) →
      W p l e R s m args below meth c H1 locs (cells + 1) (slots + N') Q (F0 m (pc + 3) ls (.ref H.size :: rest))) : W p l e R s m args below meth c H locs cells slots Q (F0 m pc ls (.int n :: rest)) := by
  subst hN
  refine W.anew hexec hb hown hclink hover rfl hdg rfl hn hbytes hcells hslots fun cA' kA comp f1 f2 f3 f4 => ?_
  have hcA : cA' = cA := by
    obtain ⟨kA2, comp2, -, -, -, h3⟩ := (hK.2 t0 _ ht).2
    exact Option.some.inj (f1.symm.trans h3)
  subst hcA
  generalize hH1 : H.push ({ cls := cA', slots := Array.replicate n.toNatClampNeg .null, vm := .none } : Cell) = H1
  have z1 : H1.size = H.size + 1 := by rw [← hH1, Array.size_push]
  have e1 : H1[H.size]? = some (arrV cA' n.toNatClampNeg (fun _ => .null)) := by rw [← hH1, Array.getElem?_push_size, ← arrV_new]
  have o1 : ∀ q : Nat, q < H.size → H1[q]? = H[q]? := fun q hq => by rw [← hH1, Array.getElem?_push, if_neg (Nat.ne_of_lt hq)]
  refine kk H1 ?_ z1 o1
  show H1[H.size]? = some (vp_cell _ _)
  rw [vp_cell_q]
  exact e1
/-- a call that returns v -/
theorem x_call {st0 : List Value} {av : Array Value} {mc ms : Nat} {free : Addr → Prop} {v : Option Value} {P : Heap → Prop} (hr : va_Run p l e R s m args below meth c H locs cells slots mc ms (F0 m pc ls st0) rest (x_Q v P av) free) (hL : ∀ q ∈ locs, F q.base) (hf : ∀ q, free q → F q)
    (kk : ∀ (H1 : Heap) (locs1 : List Loc), P H1 → (∀ q ∈ locs1, F q.base) → W p l e R s m args below meth c H1 locs1 (cells + mc) (slots + ms) Q (F0 m (pc + 3) ls (v.toList ++ rest))) : W p l e R s m args below meth c H locs cells slots Q (F0 m pc ls st0) := by
  intro T hT X
  obtain ⟨v', st₀, t, T', L, h0, X', hL', e1, e2, ⟨hv, hP⟩, st⟩ := hr T hT X
  cases hv
  obtain ⟨t2, a1, b1⟩ := kk T'.heap (locs ++ L) (by rw [e1]; exact hP) (fun q hq => by
      rcases List.mem_append.mp hq with h | h
      · exact hL q h
      · exact hf _ (hL' q h)) T' rfl X'
  exact ⟨t2, st t2 a1, b1⟩
/-- a call that returns v and changes nothing -/
theorem x_callP {st0 : List Value} {av : Array Value} {v : Option Value} (hr : va_Run p l e R s m args below meth c H locs cells slots 0 0 (F0 m pc ls st0) rest (x_Q v (fun H1 => H1 = H) av) (fun _ => False))
    (kk : W p l e R s m args below meth c H locs cells slots Q (F0 m (pc + 3) ls (v.toList ++ rest))) : W p l e R s m args below meth c H locs cells slots Q (F0 m pc ls st0) := by
  intro T hT X
  obtain ⟨v', st₀, t, T', L, h0, X', hL', e1, e2, ⟨hv, hP⟩, st⟩ := hr T hT X
  cases hv
  obtain ⟨t2, a1, b1⟩ := kk T' (by rw [e1]; exact hP) (Stand.forget X' (fun q h => (hL' q h).elim))
  exact ⟨t2, st t2 a1, b1⟩
theorem x_top {x y : Int32} (h : x = y) (k : W p l e R s m args below meth c H locs cells slots Q (F0 m pc ls (.int y :: rest))) : W p l e R s m args below meth c H locs cells slots Q (F0 m pc ls (.int x :: rest)) := h ▸ k
theorem x_topl {x y : Int64} (h : x = y) (k : W p l e R s m args below meth c H locs cells slots Q (F0 m pc ls (.long y :: rest))) : W p l e R s m args below meth c H locs cells slots Q (F0 m pc ls (.long x :: rest)) := h ▸ k
theorem x_topv {x y : Value} (h : x = y) (k : W p l e R s m args below meth c H locs cells slots Q (F0 m pc ls (y :: rest))) : W p l e R s m args below meth c H locs cells slots Q (F0 m pc ls (x :: rest)) := h ▸ k
theorem x_iret {mc ms : Nat} {free : Addr → Prop} {v r : Int32} {P : Heap → Prop} (hexec : p.tables.exec = Jvm.exec) (hb : c.code = cc) (hr : meth.sig.returnType = some .int) (hlocks : meth.locks = false) (hv : v = r) (hP : P H) (hL : ∀ q ∈ locs, free q.base) (hc : cells ≤ mc) (hs : slots ≤ ms) (hdg : decode cc pc = .ok (.ireturn, 1)) : W p l e R s m args below meth c H locs cells slots (MQ below (x_Q (some (.int r)) P) args s mc ms free) (F0 m pc ls [.int v]) :=
  W.widen hc hs (W.iret hexec hb hr (fun t ht _ => ⟨by rw [hv], by rw [ht]; exact hP⟩) hL hdg hlocks)
theorem x_zret {mc ms : Nat} {free : Addr → Prop} {v r : Int32} {P : Heap → Prop} (hexec : p.tables.exec = Jvm.exec) (hb : c.code = cc) (hr : meth.sig.returnType = some .boolean) (hlocks : meth.locks = false) (hv : v = r) (hn : narrow .boolean (.int v) = .int v) (hP : P H) (hL : ∀ q ∈ locs, free q.base) (hc : cells ≤ mc) (hs : slots ≤ ms) (hdg : decode cc pc = .ok (.ireturn, 1)) : W p l e R s m args below meth c H locs cells slots (MQ below (x_Q (some (.int r)) P) args s mc ms free) (F0 m pc ls [.int v]) :=
  W.widen hc hs (W.zret hexec hb hr hn (fun t ht _ => ⟨by rw [hv], by rw [ht]; exact hP⟩) hL hdg hlocks)
theorem x_vret {mc ms : Nat} {free : Addr → Prop} {P : Heap → Prop} (hexec : p.tables.exec = Jvm.exec) (hb : c.code = cc) (hr : meth.sig.returnType = none) (hlocks : meth.locks = false) (hP : P H) (hL : ∀ q ∈ locs, free q.base) (hc : cells ≤ mc) (hs : slots ≤ ms) (hdg : decode cc pc = .ok (.return_, 1)) : W p l e R s m args below meth c H locs cells slots (MQ below (x_Q none P) args s mc ms free) (F0 m pc ls []) :=
  W.widen hc hs (W.vret hexec hb hr (fun t ht _ => ⟨rfl, by rw [ht]; exact hP⟩) hL hdg hlocks)
theorem x_aret {mc ms : Nat} {free : Addr → Prop} {v : Value} {rt : FieldType} {P : Heap → Prop} (hexec : p.tables.exec = Jvm.exec) (hb : c.code = cc) (hr : meth.sig.returnType = some rt) (hrt : (∃ n, rt = .object n) ∨ ∃ t, rt = .array t) (hv : v = .null ∨ ∃ a, v = .ref a) (hlocks : meth.locks = false) (hP : P H) (hL : ∀ q ∈ locs, free q.base) (hc : cells ≤ mc) (hs : slots ≤ ms) (hdg : decode cc pc = .ok (.areturn, 1)) : W p l e R s m args below meth c H locs cells slots (MQ below (x_Q (some v) P) args s mc ms free) (F0 m pc ls [v]) :=
  W.widen hc hs (W.aret hexec hb hr hrt hv (fun t ht _ => ⟨rfl, by rw [ht]; exact hP⟩) hL hdg hlocks)
end XB
theorem x_no {locs : List Loc} {F : Nat → Prop} (h : locs = []) : ∀ q ∈ locs, F q.base := fun q hq => by rw [h] at hq; cases hq
theorem x_nil {F : Nat → Prop} : ∀ q ∈ ([] : List Loc), F q.base := fun q hq => by cases hq
end
section
theorem d_Bd_init_0 : decode prog_1_method_1_code 0 = .ok (.aload_n 0, 1) := by decide +kernel
theorem d_Bd_init_1 : decode prog_1_method_1_code 1 = .ok (.invokespecial 1, 3) := by decide +kernel
theorem d_Bd_init_4 : decode prog_1_method_1_code 4 = .ok (.aload_n 0, 1) := by decide +kernel
theorem d_Bd_init_5 : decode prog_1_method_1_code 5 = .ok (.new 7, 3) := by decide +kernel
theorem d_Bd_init_8 : decode prog_1_method_1_code 8 = .ok (.dup, 1) := by decide +kernel
theorem d_Bd_init_9 : decode prog_1_method_1_code 9 = .ok (.invokespecial 9, 3) := by decide +kernel
theorem d_Bd_init_12 : decode prog_1_method_1_code 12 = .ok (.putfield 10, 3) := by decide +kernel
theorem d_Bd_init_15 : decode prog_1_method_1_code 15 = .ok (.aload_n 0, 1) := by decide +kernel
theorem d_Bd_init_16 : decode prog_1_method_1_code 16 = .ok (.new 16, 3) := by decide +kernel
theorem d_Bd_init_19 : decode prog_1_method_1_code 19 = .ok (.dup, 1) := by decide +kernel
theorem d_Bd_init_20 : decode prog_1_method_1_code 20 = .ok (.invokespecial 18, 3) := by decide +kernel
theorem d_Bd_init_23 : decode prog_1_method_1_code 23 = .ok (.putfield 19, 3) := by decide +kernel
theorem d_Bd_init_26 : decode prog_1_method_1_code 26 = .ok (.aload_n 0, 1) := by decide +kernel
theorem d_Bd_init_27 : decode prog_1_method_1_code 27 = .ok (.new 16, 3) := by decide +kernel
theorem d_Bd_init_30 : decode prog_1_method_1_code 30 = .ok (.dup, 1) := by decide +kernel
theorem d_Bd_init_31 : decode prog_1_method_1_code 31 = .ok (.invokespecial 18, 3) := by decide +kernel
theorem d_Bd_init_34 : decode prog_1_method_1_code 34 = .ok (.putfield 23, 3) := by decide +kernel
theorem d_Bd_init_37 : decode prog_1_method_1_code 37 = .ok (.aload_n 0, 1) := by decide +kernel
theorem d_Bd_init_38 : decode prog_1_method_1_code 38 = .ok (.new 16, 3) := by decide +kernel
theorem d_Bd_init_41 : decode prog_1_method_1_code 41 = .ok (.dup, 1) := by decide +kernel
theorem d_Bd_init_42 : decode prog_1_method_1_code 42 = .ok (.invokespecial 18, 3) := by decide +kernel
theorem d_Bd_init_45 : decode prog_1_method_1_code 45 = .ok (.putfield 26, 3) := by decide +kernel
theorem d_Bd_init_48 : decode prog_1_method_1_code 48 = .ok (.aload_n 0, 1) := by decide +kernel
theorem d_Bd_init_49 : decode prog_1_method_1_code 49 = .ok (.new 29, 3) := by decide +kernel
theorem d_Bd_init_52 : decode prog_1_method_1_code 52 = .ok (.dup, 1) := by decide +kernel
theorem d_Bd_init_53 : decode prog_1_method_1_code 53 = .ok (.invokespecial 31, 3) := by decide +kernel
theorem d_Bd_init_56 : decode prog_1_method_1_code 56 = .ok (.putfield 32, 3) := by decide +kernel
theorem d_Bd_init_59 : decode prog_1_method_1_code 59 = .ok (.aload_n 0, 1) := by decide +kernel
theorem d_Bd_init_60 : decode prog_1_method_1_code 60 = .ok (.new 36, 3) := by decide +kernel
theorem d_Bd_init_63 : decode prog_1_method_1_code 63 = .ok (.dup, 1) := by decide +kernel
theorem d_Bd_init_64 : decode prog_1_method_1_code 64 = .ok (.iconst 0, 1) := by decide +kernel
theorem d_Bd_init_65 : decode prog_1_method_1_code 65 = .ok (.newarray .byte, 2) := by decide +kernel
theorem d_Bd_init_67 : decode prog_1_method_1_code 67 = .ok (.invokespecial 38, 3) := by decide +kernel
theorem d_Bd_init_70 : decode prog_1_method_1_code 70 = .ok (.putfield 41, 3) := by decide +kernel
theorem d_Bd_init_73 : decode prog_1_method_1_code 73 = .ok (.aload_n 0, 1) := by decide +kernel
theorem d_Bd_init_74 : decode prog_1_method_1_code 74 = .ok (.iconst 0, 1) := by decide +kernel
theorem d_Bd_init_75 : decode prog_1_method_1_code 75 = .ok (.putfield 45, 3) := by decide +kernel
theorem d_Bd_init_78 : decode prog_1_method_1_code 78 = .ok (.return_, 1) := by decide +kernel
theorem d_Tp_init_0 : decode prog_8_method_1_code 0 = .ok (.aload_n 0, 1) := by decide +kernel
theorem d_Tp_init_1 : decode prog_8_method_1_code 1 = .ok (.invokespecial 3, 3) := by decide +kernel
theorem d_Tp_init_4 : decode prog_8_method_1_code 4 = .ok (.aload_n 0, 1) := by decide +kernel
theorem d_Tp_init_5 : decode prog_8_method_1_code 5 = .ok (.sipush 400, 3) := by decide +kernel
theorem d_Tp_init_8 : decode prog_8_method_1_code 8 = .ok (.newarray .byte, 2) := by decide +kernel
theorem d_Tp_init_10 : decode prog_8_method_1_code 10 = .ok (.putfield 9, 3) := by decide +kernel
theorem d_Tp_init_13 : decode prog_8_method_1_code 13 = .ok (.aload_n 0, 1) := by decide +kernel
theorem d_Tp_init_14 : decode prog_8_method_1_code 14 = .ok (.iconst 0, 1) := by decide +kernel
theorem d_Tp_init_15 : decode prog_8_method_1_code 15 = .ok (.putfield 15, 3) := by decide +kernel
theorem d_Tp_init_18 : decode prog_8_method_1_code 18 = .ok (.return_, 1) := by decide +kernel
theorem d_Fi_init_0 : decode prog_3_method_1_code 0 = .ok (.aload_n 0, 1) := by decide +kernel
theorem d_Fi_init_1 : decode prog_3_method_1_code 1 = .ok (.invokespecial 3, 3) := by decide +kernel
theorem d_Fi_init_4 : decode prog_3_method_1_code 4 = .ok (.aload_n 0, 1) := by decide +kernel
theorem d_Fi_init_5 : decode prog_3_method_1_code 5 = .ok (.bipush 60, 2) := by decide +kernel
theorem d_Fi_init_7 : decode prog_3_method_1_code 7 = .ok (.anewarray 9, 3) := by decide +kernel
theorem d_Fi_init_10 : decode prog_3_method_1_code 10 = .ok (.putfield 11, 3) := by decide +kernel
theorem d_Fi_init_13 : decode prog_3_method_1_code 13 = .ok (.aload_n 0, 1) := by decide +kernel
theorem d_Fi_init_14 : decode prog_3_method_1_code 14 = .ok (.iconst 0, 1) := by decide +kernel
theorem d_Fi_init_15 : decode prog_3_method_1_code 15 = .ok (.putfield 17, 3) := by decide +kernel
theorem d_Fi_init_18 : decode prog_3_method_1_code 18 = .ok (.return_, 1) := by decide +kernel
theorem d_Jo_init_0 : decode prog_4_method_1_code 0 = .ok (.aload_n 0, 1) := by decide +kernel
theorem d_Jo_init_1 : decode prog_4_method_1_code 1 = .ok (.invokespecial 3, 3) := by decide +kernel
theorem d_Jo_init_4 : decode prog_4_method_1_code 4 = .ok (.aload_n 0, 1) := by decide +kernel
theorem d_Jo_init_5 : decode prog_4_method_1_code 5 = .ok (.sipush 200, 3) := by decide +kernel
theorem d_Jo_init_8 : decode prog_4_method_1_code 8 = .ok (.anewarray 9, 3) := by decide +kernel
theorem d_Jo_init_11 : decode prog_4_method_1_code 11 = .ok (.putfield 11, 3) := by decide +kernel
theorem d_Jo_init_14 : decode prog_4_method_1_code 14 = .ok (.aload_n 0, 1) := by decide +kernel
theorem d_Jo_init_15 : decode prog_4_method_1_code 15 = .ok (.iconst 0, 1) := by decide +kernel
theorem d_Jo_init_16 : decode prog_4_method_1_code 16 = .ok (.putfield 17, 3) := by decide +kernel
theorem d_Jo_init_19 : decode prog_4_method_1_code 19 = .ok (.return_, 1) := by decide +kernel
theorem d_By_init_0 : decode prog_2_method_1_code 0 = .ok (.aload_n 0, 1) := by decide +kernel
theorem d_By_init_1 : decode prog_2_method_1_code 1 = .ok (.invokespecial 3, 3) := by decide +kernel
theorem d_By_init_4 : decode prog_2_method_1_code 4 = .ok (.aload_n 0, 1) := by decide +kernel
theorem d_By_init_5 : decode prog_2_method_1_code 5 = .ok (.aload_n 1, 1) := by decide +kernel
theorem d_By_init_6 : decode prog_2_method_1_code 6 = .ok (.putfield 9, 3) := by decide +kernel
theorem d_By_init_9 : decode prog_2_method_1_code 9 = .ok (.return_, 1) := by decide +kernel
theorem d_Bd_put_0 : decode prog_1_method_2_code 0 = .ok (.aload_n 0, 1) := by decide +kernel
theorem d_Bd_put_1 : decode prog_1_method_2_code 1 = .ok (.getfield 10, 3) := by decide +kernel
theorem d_Bd_put_4 : decode prog_1_method_2_code 4 = .ok (.lload_n 1, 1) := by decide +kernel
theorem d_Bd_put_5 : decode prog_1_method_2_code 5 = .ok (.iload_n 3, 1) := by decide +kernel
theorem d_Bd_put_6 : decode prog_1_method_2_code 6 = .ok (.invokevirtual 49, 3) := by decide +kernel
theorem d_Bd_put_9 : decode prog_1_method_2_code 9 = .ok (.ireturn, 1) := by decide +kernel
theorem d_Tp_append_0 : decode prog_8_method_2_code 0 = .ok (.iload_n 3, 1) := by decide +kernel
theorem d_Tp_append_1 : decode prog_8_method_2_code 1 = .ok (.ifCond .lt 23, 3) := by decide +kernel
theorem d_Tp_append_4 : decode prog_8_method_2_code 4 = .ok (.iload_n 3, 1) := by decide +kernel
theorem d_Tp_append_5 : decode prog_8_method_2_code 5 = .ok (.bipush 8, 2) := by decide +kernel
theorem d_Tp_append_7 : decode prog_8_method_2_code 7 = .ok (.if_icmp .gt 17, 3) := by decide +kernel
theorem d_Tp_append_10 : decode prog_8_method_2_code 10 = .ok (.iload_n 3, 1) := by decide +kernel
theorem d_Tp_append_11 : decode prog_8_method_2_code 11 = .ok (.aload_n 0, 1) := by decide +kernel
theorem d_Tp_append_12 : decode prog_8_method_2_code 12 = .ok (.getfield 9, 3) := by decide +kernel
theorem d_Tp_append_15 : decode prog_8_method_2_code 15 = .ok (.arraylength, 1) := by decide +kernel
theorem d_Tp_append_16 : decode prog_8_method_2_code 16 = .ok (.aload_n 0, 1) := by decide +kernel
theorem d_Tp_append_17 : decode prog_8_method_2_code 17 = .ok (.getfield 15, 3) := by decide +kernel
theorem d_Tp_append_20 : decode prog_8_method_2_code 20 = .ok (.isub, 1) := by decide +kernel
theorem d_Tp_append_21 : decode prog_8_method_2_code 21 = .ok (.if_icmp .le 5, 3) := by decide +kernel
theorem d_Tp_append_24 : decode prog_8_method_2_code 24 = .ok (.iconst 0, 1) := by decide +kernel
theorem d_Tp_append_25 : decode prog_8_method_2_code 25 = .ok (.ireturn, 1) := by decide +kernel
theorem d_Tp_append_26 : decode prog_8_method_2_code 26 = .ok (.iload_n 3, 1) := by decide +kernel
theorem d_Tp_append_27 : decode prog_8_method_2_code 27 = .ok (.iconst 1, 1) := by decide +kernel
theorem d_Tp_append_28 : decode prog_8_method_2_code 28 = .ok (.isub, 1) := by decide +kernel
theorem d_Tp_append_29 : decode prog_8_method_2_code 29 = .ok (.istore 4, 2) := by decide +kernel
theorem d_Tp_append_31 : decode prog_8_method_2_code 31 = .ok (.iload 4, 2) := by decide +kernel
theorem d_Tp_append_33 : decode prog_8_method_2_code 33 = .ok (.ifCond .lt 37, 3) := by decide +kernel
theorem d_Tp_append_36 : decode prog_8_method_2_code 36 = .ok (.aload_n 0, 1) := by decide +kernel
theorem d_Tp_append_37 : decode prog_8_method_2_code 37 = .ok (.getfield 9, 3) := by decide +kernel
theorem d_Tp_append_40 : decode prog_8_method_2_code 40 = .ok (.aload_n 0, 1) := by decide +kernel
theorem d_Tp_append_41 : decode prog_8_method_2_code 41 = .ok (.getfield 15, 3) := by decide +kernel
theorem d_Tp_append_44 : decode prog_8_method_2_code 44 = .ok (.lload_n 1, 1) := by decide +kernel
theorem d_Tp_append_45 : decode prog_8_method_2_code 45 = .ok (.bipush 8, 2) := by decide +kernel
theorem d_Tp_append_47 : decode prog_8_method_2_code 47 = .ok (.iload 4, 2) := by decide +kernel
theorem d_Tp_append_49 : decode prog_8_method_2_code 49 = .ok (.imul, 1) := by decide +kernel
theorem d_Tp_append_50 : decode prog_8_method_2_code 50 = .ok (.lushr, 1) := by decide +kernel
theorem d_Tp_append_51 : decode prog_8_method_2_code 51 = .ok (.l2i, 1) := by decide +kernel
theorem d_Tp_append_52 : decode prog_8_method_2_code 52 = .ok (.i2b, 1) := by decide +kernel
theorem d_Tp_append_53 : decode prog_8_method_2_code 53 = .ok (.bastore, 1) := by decide +kernel
theorem d_Tp_append_54 : decode prog_8_method_2_code 54 = .ok (.aload_n 0, 1) := by decide +kernel
theorem d_Tp_append_55 : decode prog_8_method_2_code 55 = .ok (.dup, 1) := by decide +kernel
theorem d_Tp_append_56 : decode prog_8_method_2_code 56 = .ok (.getfield 15, 3) := by decide +kernel
theorem d_Tp_append_59 : decode prog_8_method_2_code 59 = .ok (.iconst 1, 1) := by decide +kernel
theorem d_Tp_append_60 : decode prog_8_method_2_code 60 = .ok (.iadd, 1) := by decide +kernel
theorem d_Tp_append_61 : decode prog_8_method_2_code 61 = .ok (.putfield 15, 3) := by decide +kernel
theorem d_Tp_append_64 : decode prog_8_method_2_code 64 = .ok (.iinc 4 (-1), 3) := by decide +kernel
theorem d_Tp_append_67 : decode prog_8_method_2_code 67 = .ok (.goto (-36), 3) := by decide +kernel
theorem d_Tp_append_70 : decode prog_8_method_2_code 70 = .ok (.iconst 1, 1) := by decide +kernel
theorem d_Tp_append_71 : decode prog_8_method_2_code 71 = .ok (.ireturn, 1) := by decide +kernel
theorem d_Bd_sync_0 : decode prog_1_method_7_code 0 = .ok (.aload_n 0, 1) := by decide +kernel
theorem d_Bd_sync_1 : decode prog_1_method_7_code 1 = .ok (.getfield 32, 3) := by decide +kernel
theorem d_Bd_sync_4 : decode prog_1_method_7_code 4 = .ok (.getfield 119, 3) := by decide +kernel
theorem d_Bd_sync_7 : decode prog_1_method_7_code 7 = .ok (.istore_n 1, 1) := by decide +kernel
theorem d_Bd_sync_8 : decode prog_1_method_7_code 8 = .ok (.aload_n 0, 1) := by decide +kernel
theorem d_Bd_sync_9 : decode prog_1_method_7_code 9 = .ok (.getfield 23, 3) := by decide +kernel
theorem d_Bd_sync_12 : decode prog_1_method_7_code 12 = .ok (.aload_n 0, 1) := by decide +kernel
theorem d_Bd_sync_13 : decode prog_1_method_7_code 13 = .ok (.getfield 19, 3) := by decide +kernel
theorem d_Bd_sync_16 : decode prog_1_method_7_code 16 = .ok (.invokevirtual 120, 3) := by decide +kernel
theorem d_Bd_sync_19 : decode prog_1_method_7_code 19 = .ok (.aload_n 0, 1) := by decide +kernel
theorem d_Bd_sync_20 : decode prog_1_method_7_code 20 = .ok (.getfield 32, 3) := by decide +kernel
theorem d_Bd_sync_23 : decode prog_1_method_7_code 23 = .ok (.invokevirtual 124, 3) := by decide +kernel
theorem d_Bd_sync_26 : decode prog_1_method_7_code 26 = .ok (.aload_n 0, 1) := by decide +kernel
theorem d_Bd_sync_27 : decode prog_1_method_7_code 27 = .ok (.dup, 1) := by decide +kernel
theorem d_Bd_sync_28 : decode prog_1_method_7_code 28 = .ok (.getfield 45, 3) := by decide +kernel
theorem d_Bd_sync_31 : decode prog_1_method_7_code 31 = .ok (.iconst 1, 1) := by decide +kernel
theorem d_Bd_sync_32 : decode prog_1_method_7_code 32 = .ok (.iadd, 1) := by decide +kernel
theorem d_Bd_sync_33 : decode prog_1_method_7_code 33 = .ok (.putfield 45, 3) := by decide +kernel
theorem d_Bd_sync_36 : decode prog_1_method_7_code 36 = .ok (.iload_n 1, 1) := by decide +kernel
theorem d_Bd_sync_37 : decode prog_1_method_7_code 37 = .ok (.ireturn, 1) := by decide +kernel
theorem d_Fi_copyFrom_0 : decode prog_3_method_7_code 0 = .ok (.aload_n 0, 1) := by decide +kernel
theorem d_Fi_copyFrom_1 : decode prog_3_method_7_code 1 = .ok (.aload_n 1, 1) := by decide +kernel
theorem d_Fi_copyFrom_2 : decode prog_3_method_7_code 2 = .ok (.getfield 17, 3) := by decide +kernel
theorem d_Fi_copyFrom_5 : decode prog_3_method_7_code 5 = .ok (.putfield 17, 3) := by decide +kernel
theorem d_Fi_copyFrom_8 : decode prog_3_method_7_code 8 = .ok (.iconst 0, 1) := by decide +kernel
theorem d_Fi_copyFrom_9 : decode prog_3_method_7_code 9 = .ok (.istore_n 2, 1) := by decide +kernel
theorem d_Fi_copyFrom_10 : decode prog_3_method_7_code 10 = .ok (.iload_n 2, 1) := by decide +kernel
theorem d_Fi_copyFrom_11 : decode prog_3_method_7_code 11 = .ok (.aload_n 0, 1) := by decide +kernel
theorem d_Fi_copyFrom_12 : decode prog_3_method_7_code 12 = .ok (.getfield 17, 3) := by decide +kernel
theorem d_Fi_copyFrom_15 : decode prog_3_method_7_code 15 = .ok (.if_icmp .ge 21, 3) := by decide +kernel
theorem d_Fi_copyFrom_18 : decode prog_3_method_7_code 18 = .ok (.aload_n 0, 1) := by decide +kernel
theorem d_Fi_copyFrom_19 : decode prog_3_method_7_code 19 = .ok (.getfield 11, 3) := by decide +kernel
theorem d_Fi_copyFrom_22 : decode prog_3_method_7_code 22 = .ok (.iload_n 2, 1) := by decide +kernel
theorem d_Fi_copyFrom_23 : decode prog_3_method_7_code 23 = .ok (.aload_n 1, 1) := by decide +kernel
theorem d_Fi_copyFrom_24 : decode prog_3_method_7_code 24 = .ok (.getfield 11, 3) := by decide +kernel
theorem d_Fi_copyFrom_27 : decode prog_3_method_7_code 27 = .ok (.iload_n 2, 1) := by decide +kernel
theorem d_Fi_copyFrom_28 : decode prog_3_method_7_code 28 = .ok (.aaload, 1) := by decide +kernel
theorem d_Fi_copyFrom_29 : decode prog_3_method_7_code 29 = .ok (.aastore, 1) := by decide +kernel
theorem d_Fi_copyFrom_30 : decode prog_3_method_7_code 30 = .ok (.iinc 2 1, 3) := by decide +kernel
theorem d_Fi_copyFrom_33 : decode prog_3_method_7_code 33 = .ok (.goto (-23), 3) := by decide +kernel
theorem d_Fi_copyFrom_36 : decode prog_3_method_7_code 36 = .ok (.return_, 1) := by decide +kernel
theorem d_Jo_clear_0 : decode prog_4_method_5_code 0 = .ok (.aload_n 0, 1) := by decide +kernel
theorem d_Jo_clear_1 : decode prog_4_method_5_code 1 = .ok (.iconst 0, 1) := by decide +kernel
theorem d_Jo_clear_2 : decode prog_4_method_5_code 2 = .ok (.putfield 17, 3) := by decide +kernel
theorem d_Jo_clear_5 : decode prog_4_method_5_code 5 = .ok (.return_, 1) := by decide +kernel
theorem d_Bd_size_0 : decode prog_1_method_9_code 0 = .ok (.aload_n 0, 1) := by decide +kernel
theorem d_Bd_size_1 : decode prog_1_method_9_code 1 = .ok (.getfield 19, 3) := by decide +kernel
theorem d_Bd_size_4 : decode prog_1_method_9_code 4 = .ok (.aload_n 0, 1) := by decide +kernel
theorem d_Bd_size_5 : decode prog_1_method_9_code 5 = .ok (.iload_n 1, 1) := by decide +kernel
theorem d_Bd_size_6 : decode prog_1_method_9_code 6 = .ok (.iload_n 2, 1) := by decide +kernel
theorem d_Bd_size_7 : decode prog_1_method_9_code 7 = .ok (.invokevirtual 74, 3) := by decide +kernel
theorem d_Bd_size_10 : decode prog_1_method_9_code 10 = .ok (.invokevirtual 82, 3) := by decide +kernel
theorem d_Bd_size_13 : decode prog_1_method_9_code 13 = .ok (.astore_n 3, 1) := by decide +kernel
theorem d_Bd_size_14 : decode prog_1_method_9_code 14 = .ok (.aload_n 3, 1) := by decide +kernel
theorem d_Bd_size_15 : decode prog_1_method_9_code 15 = .ok (.ifnonnull 7, 3) := by decide +kernel
theorem d_Bd_size_18 : decode prog_1_method_9_code 18 = .ok (.iconst (-1), 1) := by decide +kernel
theorem d_Bd_size_19 : decode prog_1_method_9_code 19 = .ok (.goto 10, 3) := by decide +kernel
theorem d_Bd_size_22 : decode prog_1_method_9_code 22 = .ok (.aload_n 3, 1) := by decide +kernel
theorem d_Bd_size_23 : decode prog_1_method_9_code 23 = .ok (.getfield 116, 3) := by decide +kernel
theorem d_Bd_size_26 : decode prog_1_method_9_code 26 = .ok (.invokevirtual 67, 3) := by decide +kernel
theorem d_Bd_size_29 : decode prog_1_method_9_code 29 = .ok (.ireturn, 1) := by decide +kernel
theorem d_Bd_nameOf_0 : decode prog_1_method_18_code 0 = .ok (.new 157, 3) := by decide +kernel
theorem d_Bd_nameOf_3 : decode prog_1_method_18_code 3 = .ok (.dup, 1) := by decide +kernel
theorem d_Bd_nameOf_4 : decode prog_1_method_18_code 4 = .ok (.iload_n 1, 1) := by decide +kernel
theorem d_Bd_nameOf_5 : decode prog_1_method_18_code 5 = .ok (.iload_n 2, 1) := by decide +kernel
theorem d_Bd_nameOf_6 : decode prog_1_method_18_code 6 = .ok (.aload_n 0, 1) := by decide +kernel
theorem d_Bd_nameOf_7 : decode prog_1_method_18_code 7 = .ok (.getfield 41, 3) := by decide +kernel
theorem d_Bd_nameOf_10 : decode prog_1_method_18_code 10 = .ok (.invokespecial 177, 3) := by decide +kernel
theorem d_Bd_nameOf_13 : decode prog_1_method_18_code 13 = .ok (.areturn, 1) := by decide +kernel
theorem d_Nm_init_0 : decode prog_5_method_1_code 0 = .ok (.aload_n 0, 1) := by decide +kernel
theorem d_Nm_init_1 : decode prog_5_method_1_code 1 = .ok (.invokespecial 1, 3) := by decide +kernel
theorem d_Nm_init_4 : decode prog_5_method_1_code 4 = .ok (.aload_n 0, 1) := by decide +kernel
theorem d_Nm_init_5 : decode prog_5_method_1_code 5 = .ok (.iload_n 1, 1) := by decide +kernel
theorem d_Nm_init_6 : decode prog_5_method_1_code 6 = .ok (.putfield 7, 3) := by decide +kernel
theorem d_Nm_init_9 : decode prog_5_method_1_code 9 = .ok (.aload_n 0, 1) := by decide +kernel
theorem d_Nm_init_10 : decode prog_5_method_1_code 10 = .ok (.iload_n 2, 1) := by decide +kernel
theorem d_Nm_init_11 : decode prog_5_method_1_code 11 = .ok (.putfield 13, 3) := by decide +kernel
theorem d_Nm_init_14 : decode prog_5_method_1_code 14 = .ok (.aload_n 0, 1) := by decide +kernel
theorem d_Nm_init_15 : decode prog_5_method_1_code 15 = .ok (.aload_n 3, 1) := by decide +kernel
theorem d_Nm_init_16 : decode prog_5_method_1_code 16 = .ok (.putfield 16, 3) := by decide +kernel
theorem d_Nm_init_19 : decode prog_5_method_1_code 19 = .ok (.return_, 1) := by decide +kernel
theorem d_Fi_find_0 : decode prog_3_method_4_code 0 = .ok (.aload_n 0, 1) := by decide +kernel
theorem d_Fi_find_1 : decode prog_3_method_4_code 1 = .ok (.aload_n 0, 1) := by decide +kernel
theorem d_Fi_find_2 : decode prog_3_method_4_code 2 = .ok (.aload_n 1, 1) := by decide +kernel
theorem d_Fi_find_3 : decode prog_3_method_4_code 3 = .ok (.invokevirtual 21, 3) := by decide +kernel
theorem d_Fi_find_6 : decode prog_3_method_4_code 6 = .ok (.invokevirtual 25, 3) := by decide +kernel
theorem d_Fi_find_9 : decode prog_3_method_4_code 9 = .ok (.areturn, 1) := by decide +kernel
theorem d_Fi_indexOf_0 : decode prog_3_method_9_code 0 = .ok (.iconst 0, 1) := by decide +kernel
theorem d_Fi_indexOf_1 : decode prog_3_method_9_code 1 = .ok (.istore_n 2, 1) := by decide +kernel
theorem d_Fi_indexOf_2 : decode prog_3_method_9_code 2 = .ok (.iload_n 2, 1) := by decide +kernel
theorem d_Fi_indexOf_3 : decode prog_3_method_9_code 3 = .ok (.aload_n 0, 1) := by decide +kernel
theorem d_Fi_indexOf_4 : decode prog_3_method_9_code 4 = .ok (.getfield 17, 3) := by decide +kernel
theorem d_Fi_indexOf_7 : decode prog_3_method_9_code 7 = .ok (.if_icmp .ge 27, 3) := by decide +kernel
theorem d_Fi_indexOf_10 : decode prog_3_method_9_code 10 = .ok (.aload_n 1, 1) := by decide +kernel
theorem d_Fi_indexOf_11 : decode prog_3_method_9_code 11 = .ok (.aload_n 0, 1) := by decide +kernel
theorem d_Fi_indexOf_12 : decode prog_3_method_9_code 12 = .ok (.getfield 11, 3) := by decide +kernel
theorem d_Fi_indexOf_15 : decode prog_3_method_9_code 15 = .ok (.iload_n 2, 1) := by decide +kernel
theorem d_Fi_indexOf_16 : decode prog_3_method_9_code 16 = .ok (.aaload, 1) := by decide +kernel
theorem d_Fi_indexOf_17 : decode prog_3_method_9_code 17 = .ok (.getfield 29, 3) := by decide +kernel
theorem d_Fi_indexOf_20 : decode prog_3_method_9_code 20 = .ok (.invokevirtual 55, 3) := by decide +kernel
theorem d_Fi_indexOf_23 : decode prog_3_method_9_code 23 = .ok (.ifCond .ne 5, 3) := by decide +kernel
theorem d_Fi_indexOf_26 : decode prog_3_method_9_code 26 = .ok (.iload_n 2, 1) := by decide +kernel
theorem d_Fi_indexOf_27 : decode prog_3_method_9_code 27 = .ok (.ireturn, 1) := by decide +kernel
theorem d_Fi_indexOf_28 : decode prog_3_method_9_code 28 = .ok (.iinc 2 1, 3) := by decide +kernel
theorem d_Fi_indexOf_31 : decode prog_3_method_9_code 31 = .ok (.goto (-29), 3) := by decide +kernel
theorem d_Fi_indexOf_34 : decode prog_3_method_9_code 34 = .ok (.iconst (-1), 1) := by decide +kernel
theorem d_Fi_indexOf_35 : decode prog_3_method_9_code 35 = .ok (.ireturn, 1) := by decide +kernel
theorem d_Nm_order_0 : decode prog_5_method_2_code 0 = .ok (.aload_n 0, 1) := by decide +kernel
theorem d_Nm_order_1 : decode prog_5_method_2_code 1 = .ok (.getfield 7, 3) := by decide +kernel
theorem d_Nm_order_4 : decode prog_5_method_2_code 4 = .ok (.aload_n 1, 1) := by decide +kernel
theorem d_Nm_order_5 : decode prog_5_method_2_code 5 = .ok (.getfield 7, 3) := by decide +kernel
theorem d_Nm_order_8 : decode prog_5_method_2_code 8 = .ok (.if_icmp .eq 15, 3) := by decide +kernel
theorem d_Nm_order_11 : decode prog_5_method_2_code 11 = .ok (.aload_n 0, 1) := by decide +kernel
theorem d_Nm_order_12 : decode prog_5_method_2_code 12 = .ok (.getfield 7, 3) := by decide +kernel
theorem d_Nm_order_15 : decode prog_5_method_2_code 15 = .ok (.aload_n 1, 1) := by decide +kernel
theorem d_Nm_order_16 : decode prog_5_method_2_code 16 = .ok (.getfield 7, 3) := by decide +kernel
theorem d_Nm_order_19 : decode prog_5_method_2_code 19 = .ok (.invokestatic 20, 3) := by decide +kernel
theorem d_Nm_order_22 : decode prog_5_method_2_code 22 = .ok (.ireturn, 1) := by decide +kernel
theorem d_Nm_order_23 : decode prog_5_method_2_code 23 = .ok (.aload_n 0, 1) := by decide +kernel
theorem d_Nm_order_24 : decode prog_5_method_2_code 24 = .ok (.getfield 13, 3) := by decide +kernel
theorem d_Nm_order_27 : decode prog_5_method_2_code 27 = .ok (.aload_n 1, 1) := by decide +kernel
theorem d_Nm_order_28 : decode prog_5_method_2_code 28 = .ok (.getfield 13, 3) := by decide +kernel
theorem d_Nm_order_31 : decode prog_5_method_2_code 31 = .ok (.if_icmp .eq 15, 3) := by decide +kernel
theorem d_Nm_order_34 : decode prog_5_method_2_code 34 = .ok (.aload_n 0, 1) := by decide +kernel
theorem d_Nm_order_35 : decode prog_5_method_2_code 35 = .ok (.getfield 13, 3) := by decide +kernel
theorem d_Nm_order_38 : decode prog_5_method_2_code 38 = .ok (.aload_n 1, 1) := by decide +kernel
theorem d_Nm_order_39 : decode prog_5_method_2_code 39 = .ok (.getfield 13, 3) := by decide +kernel
theorem d_Nm_order_42 : decode prog_5_method_2_code 42 = .ok (.invokestatic 20, 3) := by decide +kernel
theorem d_Nm_order_45 : decode prog_5_method_2_code 45 = .ok (.ireturn, 1) := by decide +kernel
theorem d_Nm_order_46 : decode prog_5_method_2_code 46 = .ok (.aload_n 0, 1) := by decide +kernel
theorem d_Nm_order_47 : decode prog_5_method_2_code 47 = .ok (.getfield 16, 3) := by decide +kernel
theorem d_Nm_order_50 : decode prog_5_method_2_code 50 = .ok (.aload_n 1, 1) := by decide +kernel
theorem d_Nm_order_51 : decode prog_5_method_2_code 51 = .ok (.getfield 16, 3) := by decide +kernel
theorem d_Nm_order_54 : decode prog_5_method_2_code 54 = .ok (.invokevirtual 26, 3) := by decide +kernel
theorem d_Nm_order_57 : decode prog_5_method_2_code 57 = .ok (.ireturn, 1) := by decide +kernel
theorem d_It_compare_0 : decode prog_16_method_40_code 0 = .ok (.iload_n 0, 1) := by decide +kernel
theorem d_It_compare_1 : decode prog_16_method_40_code 1 = .ok (.iload_n 1, 1) := by decide +kernel
theorem d_It_compare_2 : decode prog_16_method_40_code 2 = .ok (.if_icmp .ge 7, 3) := by decide +kernel
theorem d_It_compare_5 : decode prog_16_method_40_code 5 = .ok (.iconst (-1), 1) := by decide +kernel
theorem d_It_compare_6 : decode prog_16_method_40_code 6 = .ok (.goto 13, 3) := by decide +kernel
theorem d_It_compare_9 : decode prog_16_method_40_code 9 = .ok (.iload_n 0, 1) := by decide +kernel
theorem d_It_compare_10 : decode prog_16_method_40_code 10 = .ok (.iload_n 1, 1) := by decide +kernel
theorem d_It_compare_11 : decode prog_16_method_40_code 11 = .ok (.if_icmp .ne 7, 3) := by decide +kernel
theorem d_It_compare_14 : decode prog_16_method_40_code 14 = .ok (.iconst 0, 1) := by decide +kernel
theorem d_It_compare_15 : decode prog_16_method_40_code 15 = .ok (.goto 4, 3) := by decide +kernel
theorem d_It_compare_18 : decode prog_16_method_40_code 18 = .ok (.iconst 1, 1) := by decide +kernel
theorem d_It_compare_19 : decode prog_16_method_40_code 19 = .ok (.ireturn, 1) := by decide +kernel
theorem d_By_order_0 : decode prog_2_method_4_code 0 = .ok (.iconst 0, 1) := by decide +kernel
theorem d_By_order_1 : decode prog_2_method_4_code 1 = .ok (.istore_n 2, 1) := by decide +kernel
theorem d_By_order_2 : decode prog_2_method_4_code 2 = .ok (.iload_n 2, 1) := by decide +kernel
theorem d_By_order_3 : decode prog_2_method_4_code 3 = .ok (.aload_n 0, 1) := by decide +kernel
theorem d_By_order_4 : decode prog_2_method_4_code 4 = .ok (.getfield 9, 3) := by decide +kernel
theorem d_By_order_7 : decode prog_2_method_4_code 7 = .ok (.arraylength, 1) := by decide +kernel
theorem d_By_order_8 : decode prog_2_method_4_code 8 = .ok (.if_icmp .ge 73, 3) := by decide +kernel
theorem d_By_order_11 : decode prog_2_method_4_code 11 = .ok (.iload_n 2, 1) := by decide +kernel
theorem d_By_order_12 : decode prog_2_method_4_code 12 = .ok (.aload_n 1, 1) := by decide +kernel
theorem d_By_order_13 : decode prog_2_method_4_code 13 = .ok (.getfield 9, 3) := by decide +kernel
theorem d_By_order_16 : decode prog_2_method_4_code 16 = .ok (.arraylength, 1) := by decide +kernel
theorem d_By_order_17 : decode prog_2_method_4_code 17 = .ok (.if_icmp .ge 64, 3) := by decide +kernel
theorem d_By_order_20 : decode prog_2_method_4_code 20 = .ok (.aload_n 0, 1) := by decide +kernel
theorem d_By_order_21 : decode prog_2_method_4_code 21 = .ok (.getfield 9, 3) := by decide +kernel
theorem d_By_order_24 : decode prog_2_method_4_code 24 = .ok (.iload_n 2, 1) := by decide +kernel
theorem d_By_order_25 : decode prog_2_method_4_code 25 = .ok (.baload, 1) := by decide +kernel
theorem d_By_order_26 : decode prog_2_method_4_code 26 = .ok (.sipush 255, 3) := by decide +kernel
theorem d_By_order_29 : decode prog_2_method_4_code 29 = .ok (.iand, 1) := by decide +kernel
theorem d_By_order_30 : decode prog_2_method_4_code 30 = .ok (.istore_n 3, 1) := by decide +kernel
theorem d_By_order_31 : decode prog_2_method_4_code 31 = .ok (.aload_n 1, 1) := by decide +kernel
theorem d_By_order_32 : decode prog_2_method_4_code 32 = .ok (.getfield 9, 3) := by decide +kernel
theorem d_By_order_35 : decode prog_2_method_4_code 35 = .ok (.iload_n 2, 1) := by decide +kernel
theorem d_By_order_36 : decode prog_2_method_4_code 36 = .ok (.baload, 1) := by decide +kernel
theorem d_By_order_37 : decode prog_2_method_4_code 37 = .ok (.sipush 255, 3) := by decide +kernel
theorem d_By_order_40 : decode prog_2_method_4_code 40 = .ok (.iand, 1) := by decide +kernel
theorem d_By_order_41 : decode prog_2_method_4_code 41 = .ok (.istore 4, 2) := by decide +kernel
theorem d_By_order_43 : decode prog_2_method_4_code 43 = .ok (.iload_n 3, 1) := by decide +kernel
theorem d_By_order_44 : decode prog_2_method_4_code 44 = .ok (.iload 4, 2) := by decide +kernel
theorem d_By_order_46 : decode prog_2_method_4_code 46 = .ok (.if_icmp .eq 29, 3) := by decide +kernel
theorem d_By_order_49 : decode prog_2_method_4_code 49 = .ok (.iload_n 3, 1) := by decide +kernel
theorem d_By_order_50 : decode prog_2_method_4_code 50 = .ok (.bipush 47, 2) := by decide +kernel
theorem d_By_order_52 : decode prog_2_method_4_code 52 = .ok (.if_icmp .ne 7, 3) := by decide +kernel
theorem d_By_order_55 : decode prog_2_method_4_code 55 = .ok (.iconst (-1), 1) := by decide +kernel
theorem d_By_order_56 : decode prog_2_method_4_code 56 = .ok (.goto 18, 3) := by decide +kernel
theorem d_By_order_59 : decode prog_2_method_4_code 59 = .ok (.iload 4, 2) := by decide +kernel
theorem d_By_order_61 : decode prog_2_method_4_code 61 = .ok (.bipush 47, 2) := by decide +kernel
theorem d_By_order_63 : decode prog_2_method_4_code 63 = .ok (.if_icmp .ne 7, 3) := by decide +kernel
theorem d_By_order_66 : decode prog_2_method_4_code 66 = .ok (.iconst 1, 1) := by decide +kernel
theorem d_By_order_67 : decode prog_2_method_4_code 67 = .ok (.goto 7, 3) := by decide +kernel
theorem d_By_order_70 : decode prog_2_method_4_code 70 = .ok (.iload_n 3, 1) := by decide +kernel
theorem d_By_order_71 : decode prog_2_method_4_code 71 = .ok (.iload 4, 2) := by decide +kernel
theorem d_By_order_73 : decode prog_2_method_4_code 73 = .ok (.isub, 1) := by decide +kernel
theorem d_By_order_74 : decode prog_2_method_4_code 74 = .ok (.ireturn, 1) := by decide +kernel
theorem d_By_order_75 : decode prog_2_method_4_code 75 = .ok (.iinc 2 1, 3) := by decide +kernel
theorem d_By_order_78 : decode prog_2_method_4_code 78 = .ok (.goto (-76), 3) := by decide +kernel
theorem d_By_order_81 : decode prog_2_method_4_code 81 = .ok (.aload_n 0, 1) := by decide +kernel
theorem d_By_order_82 : decode prog_2_method_4_code 82 = .ok (.getfield 9, 3) := by decide +kernel
theorem d_By_order_85 : decode prog_2_method_4_code 85 = .ok (.arraylength, 1) := by decide +kernel
theorem d_By_order_86 : decode prog_2_method_4_code 86 = .ok (.aload_n 1, 1) := by decide +kernel
theorem d_By_order_87 : decode prog_2_method_4_code 87 = .ok (.getfield 9, 3) := by decide +kernel
theorem d_By_order_90 : decode prog_2_method_4_code 90 = .ok (.arraylength, 1) := by decide +kernel
theorem d_By_order_91 : decode prog_2_method_4_code 91 = .ok (.isub, 1) := by decide +kernel
theorem d_By_order_92 : decode prog_2_method_4_code 92 = .ok (.ireturn, 1) := by decide +kernel
theorem d_Fi_nth_0 : decode prog_3_method_3_code 0 = .ok (.iload_n 1, 1) := by decide +kernel
theorem d_Fi_nth_1 : decode prog_3_method_3_code 1 = .ok (.ifCond .lt 20, 3) := by decide +kernel
theorem d_Fi_nth_4 : decode prog_3_method_3_code 4 = .ok (.iload_n 1, 1) := by decide +kernel
theorem d_Fi_nth_5 : decode prog_3_method_3_code 5 = .ok (.aload_n 0, 1) := by decide +kernel
theorem d_Fi_nth_6 : decode prog_3_method_3_code 6 = .ok (.getfield 17, 3) := by decide +kernel
theorem d_Fi_nth_9 : decode prog_3_method_3_code 9 = .ok (.if_icmp .ge 12, 3) := by decide +kernel
theorem d_Fi_nth_12 : decode prog_3_method_3_code 12 = .ok (.aload_n 0, 1) := by decide +kernel
theorem d_Fi_nth_13 : decode prog_3_method_3_code 13 = .ok (.getfield 11, 3) := by decide +kernel
theorem d_Fi_nth_16 : decode prog_3_method_3_code 16 = .ok (.iload_n 1, 1) := by decide +kernel
theorem d_Fi_nth_17 : decode prog_3_method_3_code 17 = .ok (.aaload, 1) := by decide +kernel
theorem d_Fi_nth_18 : decode prog_3_method_3_code 18 = .ok (.goto 4, 3) := by decide +kernel
theorem d_Fi_nth_21 : decode prog_3_method_3_code 21 = .ok (.aconst_null, 1) := by decide +kernel
theorem d_Fi_nth_22 : decode prog_3_method_3_code 22 = .ok (.areturn, 1) := by decide +kernel
theorem d_By_length_0 : decode prog_2_method_2_code 0 = .ok (.aload_n 0, 1) := by decide +kernel
theorem d_By_length_1 : decode prog_2_method_2_code 1 = .ok (.getfield 9, 3) := by decide +kernel
theorem d_By_length_4 : decode prog_2_method_2_code 4 = .ok (.arraylength, 1) := by decide +kernel
theorem d_By_length_5 : decode prog_2_method_2_code 5 = .ok (.ireturn, 1) := by decide +kernel
theorem d_Bd_at_0 : decode prog_1_method_10_code 0 = .ok (.aload_n 0, 1) := by decide +kernel
theorem d_Bd_at_1 : decode prog_1_method_10_code 1 = .ok (.getfield 19, 3) := by decide +kernel
theorem d_Bd_at_4 : decode prog_1_method_10_code 4 = .ok (.aload_n 0, 1) := by decide +kernel
theorem d_Bd_at_5 : decode prog_1_method_10_code 5 = .ok (.iload_n 1, 1) := by decide +kernel
theorem d_Bd_at_6 : decode prog_1_method_10_code 6 = .ok (.iload_n 2, 1) := by decide +kernel
theorem d_Bd_at_7 : decode prog_1_method_10_code 7 = .ok (.invokevirtual 74, 3) := by decide +kernel
theorem d_Bd_at_10 : decode prog_1_method_10_code 10 = .ok (.invokevirtual 82, 3) := by decide +kernel
theorem d_Bd_at_13 : decode prog_1_method_10_code 13 = .ok (.astore 4, 2) := by decide +kernel
theorem d_Bd_at_15 : decode prog_1_method_10_code 15 = .ok (.aload 4, 2) := by decide +kernel
theorem d_Bd_at_17 : decode prog_1_method_10_code 17 = .ok (.ifnonnull 7, 3) := by decide +kernel
theorem d_Bd_at_20 : decode prog_1_method_10_code 20 = .ok (.iconst (-1), 1) := by decide +kernel
theorem d_Bd_at_21 : decode prog_1_method_10_code 21 = .ok (.goto 12, 3) := by decide +kernel
theorem d_Bd_at_24 : decode prog_1_method_10_code 24 = .ok (.aload 4, 2) := by decide +kernel
theorem d_Bd_at_26 : decode prog_1_method_10_code 26 = .ok (.getfield 116, 3) := by decide +kernel
theorem d_Bd_at_29 : decode prog_1_method_10_code 29 = .ok (.iload_n 3, 1) := by decide +kernel
theorem d_Bd_at_30 : decode prog_1_method_10_code 30 = .ok (.invokevirtual 139, 3) := by decide +kernel
theorem d_Bd_at_33 : decode prog_1_method_10_code 33 = .ok (.ireturn, 1) := by decide +kernel
theorem d_By_byteAt_0 : decode prog_2_method_3_code 0 = .ok (.iload_n 1, 1) := by decide +kernel
theorem d_By_byteAt_1 : decode prog_2_method_3_code 1 = .ok (.ifCond .lt 25, 3) := by decide +kernel
theorem d_By_byteAt_4 : decode prog_2_method_3_code 4 = .ok (.iload_n 1, 1) := by decide +kernel
theorem d_By_byteAt_5 : decode prog_2_method_3_code 5 = .ok (.aload_n 0, 1) := by decide +kernel
theorem d_By_byteAt_6 : decode prog_2_method_3_code 6 = .ok (.getfield 9, 3) := by decide +kernel
theorem d_By_byteAt_9 : decode prog_2_method_3_code 9 = .ok (.arraylength, 1) := by decide +kernel
theorem d_By_byteAt_10 : decode prog_2_method_3_code 10 = .ok (.if_icmp .ge 16, 3) := by decide +kernel
theorem d_By_byteAt_13 : decode prog_2_method_3_code 13 = .ok (.aload_n 0, 1) := by decide +kernel
theorem d_By_byteAt_14 : decode prog_2_method_3_code 14 = .ok (.getfield 9, 3) := by decide +kernel
theorem d_By_byteAt_17 : decode prog_2_method_3_code 17 = .ok (.iload_n 1, 1) := by decide +kernel
theorem d_By_byteAt_18 : decode prog_2_method_3_code 18 = .ok (.baload, 1) := by decide +kernel
theorem d_By_byteAt_19 : decode prog_2_method_3_code 19 = .ok (.sipush 255, 3) := by decide +kernel
theorem d_By_byteAt_22 : decode prog_2_method_3_code 22 = .ok (.iand, 1) := by decide +kernel
theorem d_By_byteAt_23 : decode prog_2_method_3_code 23 = .ok (.goto 4, 3) := by decide +kernel
theorem d_By_byteAt_26 : decode prog_2_method_3_code 26 = .ok (.iconst (-1), 1) := by decide +kernel
theorem d_By_byteAt_27 : decode prog_2_method_3_code 27 = .ok (.ireturn, 1) := by decide +kernel
theorem d_Bd_list_0 : decode prog_1_method_11_code 0 = .ok (.iload_n 1, 1) := by decide +kernel
theorem d_Bd_list_1 : decode prog_1_method_11_code 1 = .ok (.invokestatic 143, 3) := by decide +kernel
theorem d_Bd_list_4 : decode prog_1_method_11_code 4 = .ok (.ifCond .ne 5, 3) := by decide +kernel
theorem d_Bd_list_7 : decode prog_1_method_11_code 7 = .ok (.iconst (-1), 1) := by decide +kernel
theorem d_Bd_list_8 : decode prog_1_method_11_code 8 = .ok (.ireturn, 1) := by decide +kernel
theorem d_Bd_list_9 : decode prog_1_method_11_code 9 = .ok (.aload_n 0, 1) := by decide +kernel
theorem d_Bd_list_10 : decode prog_1_method_11_code 10 = .ok (.getfield 26, 3) := by decide +kernel
theorem d_Bd_list_13 : decode prog_1_method_11_code 13 = .ok (.aload_n 0, 1) := by decide +kernel
theorem d_Bd_list_14 : decode prog_1_method_11_code 14 = .ok (.getfield 19, 3) := by decide +kernel
theorem d_Bd_list_17 : decode prog_1_method_11_code 17 = .ok (.iload_n 1, 1) := by decide +kernel
theorem d_Bd_list_18 : decode prog_1_method_11_code 18 = .ok (.invokevirtual 147, 3) := by decide +kernel
theorem d_Bd_list_21 : decode prog_1_method_11_code 21 = .ok (.aload_n 0, 1) := by decide +kernel
theorem d_Bd_list_22 : decode prog_1_method_11_code 22 = .ok (.getfield 26, 3) := by decide +kernel
theorem d_Bd_list_25 : decode prog_1_method_11_code 25 = .ok (.getfield 151, 3) := by decide +kernel
theorem d_Bd_list_28 : decode prog_1_method_11_code 28 = .ok (.ireturn, 1) := by decide +kernel
theorem d_Bd_isSort_0 : decode prog_1_method_14_code 0 = .ok (.iload_n 0, 1) := by decide +kernel
theorem d_Bd_isSort_1 : decode prog_1_method_14_code 1 = .ok (.ifCond .lt 13, 3) := by decide +kernel
theorem d_Bd_isSort_4 : decode prog_1_method_14_code 4 = .ok (.iload_n 0, 1) := by decide +kernel
theorem d_Bd_isSort_5 : decode prog_1_method_14_code 5 = .ok (.bipush 7, 2) := by decide +kernel
theorem d_Bd_isSort_7 : decode prog_1_method_14_code 7 = .ok (.if_icmp .ge 7, 3) := by decide +kernel
theorem d_Bd_isSort_10 : decode prog_1_method_14_code 10 = .ok (.iconst 1, 1) := by decide +kernel
theorem d_Bd_isSort_11 : decode prog_1_method_14_code 11 = .ok (.goto 4, 3) := by decide +kernel
theorem d_Bd_isSort_14 : decode prog_1_method_14_code 14 = .ok (.iconst 0, 1) := by decide +kernel
theorem d_Bd_isSort_15 : decode prog_1_method_14_code 15 = .ok (.ireturn, 1) := by decide +kernel
theorem d_Fi_copySortFrom_0 : decode prog_3_method_8_code 0 = .ok (.aload_n 0, 1) := by decide +kernel
theorem d_Fi_copySortFrom_1 : decode prog_3_method_8_code 1 = .ok (.iconst 0, 1) := by decide +kernel
theorem d_Fi_copySortFrom_2 : decode prog_3_method_8_code 2 = .ok (.putfield 17, 3) := by decide +kernel
theorem d_Fi_copySortFrom_5 : decode prog_3_method_8_code 5 = .ok (.iconst 0, 1) := by decide +kernel
theorem d_Fi_copySortFrom_6 : decode prog_3_method_8_code 6 = .ok (.istore_n 3, 1) := by decide +kernel
theorem d_Fi_copySortFrom_7 : decode prog_3_method_8_code 7 = .ok (.iload_n 3, 1) := by decide +kernel
theorem d_Fi_copySortFrom_8 : decode prog_3_method_8_code 8 = .ok (.aload_n 1, 1) := by decide +kernel
theorem d_Fi_copySortFrom_9 : decode prog_3_method_8_code 9 = .ok (.getfield 17, 3) := by decide +kernel
theorem d_Fi_copySortFrom_12 : decode prog_3_method_8_code 12 = .ok (.if_icmp .ge 50, 3) := by decide +kernel
theorem d_Fi_copySortFrom_15 : decode prog_3_method_8_code 15 = .ok (.aload_n 1, 1) := by decide +kernel
theorem d_Fi_copySortFrom_16 : decode prog_3_method_8_code 16 = .ok (.getfield 11, 3) := by decide +kernel
theorem d_Fi_copySortFrom_19 : decode prog_3_method_8_code 19 = .ok (.iload_n 3, 1) := by decide +kernel
theorem d_Fi_copySortFrom_20 : decode prog_3_method_8_code 20 = .ok (.aaload, 1) := by decide +kernel
theorem d_Fi_copySortFrom_21 : decode prog_3_method_8_code 21 = .ok (.getfield 29, 3) := by decide +kernel
theorem d_Fi_copySortFrom_24 : decode prog_3_method_8_code 24 = .ok (.getfield 33, 3) := by decide +kernel
theorem d_Fi_copySortFrom_27 : decode prog_3_method_8_code 27 = .ok (.iload_n 2, 1) := by decide +kernel
theorem d_Fi_copySortFrom_28 : decode prog_3_method_8_code 28 = .ok (.if_icmp .ne 28, 3) := by decide +kernel
theorem d_Fi_copySortFrom_31 : decode prog_3_method_8_code 31 = .ok (.aload_n 0, 1) := by decide +kernel
theorem d_Fi_copySortFrom_32 : decode prog_3_method_8_code 32 = .ok (.getfield 11, 3) := by decide +kernel
theorem d_Fi_copySortFrom_35 : decode prog_3_method_8_code 35 = .ok (.aload_n 0, 1) := by decide +kernel
theorem d_Fi_copySortFrom_36 : decode prog_3_method_8_code 36 = .ok (.getfield 17, 3) := by decide +kernel
theorem d_Fi_copySortFrom_39 : decode prog_3_method_8_code 39 = .ok (.aload_n 1, 1) := by decide +kernel
theorem d_Fi_copySortFrom_40 : decode prog_3_method_8_code 40 = .ok (.getfield 11, 3) := by decide +kernel
theorem d_Fi_copySortFrom_43 : decode prog_3_method_8_code 43 = .ok (.iload_n 3, 1) := by decide +kernel
theorem d_Fi_copySortFrom_44 : decode prog_3_method_8_code 44 = .ok (.aaload, 1) := by decide +kernel
theorem d_Fi_copySortFrom_45 : decode prog_3_method_8_code 45 = .ok (.aastore, 1) := by decide +kernel
theorem d_Fi_copySortFrom_46 : decode prog_3_method_8_code 46 = .ok (.aload_n 0, 1) := by decide +kernel
theorem d_Fi_copySortFrom_47 : decode prog_3_method_8_code 47 = .ok (.dup, 1) := by decide +kernel
theorem d_Fi_copySortFrom_48 : decode prog_3_method_8_code 48 = .ok (.getfield 17, 3) := by decide +kernel
theorem d_Fi_copySortFrom_51 : decode prog_3_method_8_code 51 = .ok (.iconst 1, 1) := by decide +kernel
theorem d_Fi_copySortFrom_52 : decode prog_3_method_8_code 52 = .ok (.iadd, 1) := by decide +kernel
theorem d_Fi_copySortFrom_53 : decode prog_3_method_8_code 53 = .ok (.putfield 17, 3) := by decide +kernel
theorem d_Fi_copySortFrom_56 : decode prog_3_method_8_code 56 = .ok (.iinc 3 1, 3) := by decide +kernel
theorem d_Fi_copySortFrom_59 : decode prog_3_method_8_code 59 = .ok (.goto (-52), 3) := by decide +kernel
theorem d_Fi_copySortFrom_62 : decode prog_3_method_8_code 62 = .ok (.return_, 1) := by decide +kernel
theorem d_Bd_listed_0 : decode prog_1_method_12_code 0 = .ok (.aload_n 0, 1) := by decide +kernel
theorem d_Bd_listed_1 : decode prog_1_method_12_code 1 = .ok (.getfield 26, 3) := by decide +kernel
theorem d_Bd_listed_4 : decode prog_1_method_12_code 4 = .ok (.iload_n 1, 1) := by decide +kernel
theorem d_Bd_listed_5 : decode prog_1_method_12_code 5 = .ok (.invokevirtual 152, 3) := by decide +kernel
theorem d_Bd_listed_8 : decode prog_1_method_12_code 8 = .ok (.astore_n 3, 1) := by decide +kernel
theorem d_Bd_listed_9 : decode prog_1_method_12_code 9 = .ok (.aload_n 3, 1) := by decide +kernel
theorem d_Bd_listed_10 : decode prog_1_method_12_code 10 = .ok (.ifnonnull 5, 3) := by decide +kernel
theorem d_Bd_listed_13 : decode prog_1_method_12_code 13 = .ok (.iconst (-1), 1) := by decide +kernel
theorem d_Bd_listed_14 : decode prog_1_method_12_code 14 = .ok (.ireturn, 1) := by decide +kernel
theorem d_Bd_listed_15 : decode prog_1_method_12_code 15 = .ok (.iload_n 2, 1) := by decide +kernel
theorem d_Bd_listed_16 : decode prog_1_method_12_code 16 = .ok (.iconst (-1), 1) := by decide +kernel
theorem d_Bd_listed_17 : decode prog_1_method_12_code 17 = .ok (.if_icmp .ne 13, 3) := by decide +kernel
theorem d_Bd_listed_20 : decode prog_1_method_12_code 20 = .ok (.aload_n 3, 1) := by decide +kernel
theorem d_Bd_listed_21 : decode prog_1_method_12_code 21 = .ok (.getfield 112, 3) := by decide +kernel
theorem d_Bd_listed_24 : decode prog_1_method_12_code 24 = .ok (.getfield 156, 3) := by decide +kernel
theorem d_Bd_listed_27 : decode prog_1_method_12_code 27 = .ok (.goto 14, 3) := by decide +kernel
theorem d_Bd_listed_30 : decode prog_1_method_12_code 30 = .ok (.aload_n 3, 1) := by decide +kernel
theorem d_Bd_listed_31 : decode prog_1_method_12_code 31 = .ok (.getfield 112, 3) := by decide +kernel
theorem d_Bd_listed_34 : decode prog_1_method_12_code 34 = .ok (.getfield 161, 3) := by decide +kernel
theorem d_Bd_listed_37 : decode prog_1_method_12_code 37 = .ok (.iload_n 2, 1) := by decide +kernel
theorem d_Bd_listed_38 : decode prog_1_method_12_code 38 = .ok (.invokevirtual 139, 3) := by decide +kernel
theorem d_Bd_listed_41 : decode prog_1_method_12_code 41 = .ok (.ireturn, 1) := by decide +kernel
theorem d_Bd_count_0 : decode prog_1_method_13_code 0 = .ok (.iload_n 1, 1) := by decide +kernel
theorem d_Bd_count_1 : decode prog_1_method_13_code 1 = .ok (.invokestatic 143, 3) := by decide +kernel
theorem d_Bd_count_4 : decode prog_1_method_13_code 4 = .ok (.ifCond .eq 12, 3) := by decide +kernel
theorem d_Bd_count_7 : decode prog_1_method_13_code 7 = .ok (.aload_n 0, 1) := by decide +kernel
theorem d_Bd_count_8 : decode prog_1_method_13_code 8 = .ok (.getfield 19, 3) := by decide +kernel
theorem d_Bd_count_11 : decode prog_1_method_13_code 11 = .ok (.iload_n 1, 1) := by decide +kernel
theorem d_Bd_count_12 : decode prog_1_method_13_code 12 = .ok (.invokevirtual 164, 3) := by decide +kernel
theorem d_Bd_count_15 : decode prog_1_method_13_code 15 = .ok (.ireturn, 1) := by decide +kernel
theorem d_Bd_count_16 : decode prog_1_method_13_code 16 = .ok (.iload_n 1, 1) := by decide +kernel
theorem d_Bd_count_17 : decode prog_1_method_13_code 17 = .ok (.tableswitch 60 7 10 #[31, 39, 47, 55], 31) := by decide +kernel
theorem d_Bd_count_48 : decode prog_1_method_13_code 48 = .ok (.aload_n 0, 1) := by decide +kernel
theorem d_Bd_count_49 : decode prog_1_method_13_code 49 = .ok (.getfield 19, 3) := by decide +kernel
theorem d_Bd_count_52 : decode prog_1_method_13_code 52 = .ok (.getfield 151, 3) := by decide +kernel
theorem d_Bd_count_55 : decode prog_1_method_13_code 55 = .ok (.ireturn, 1) := by decide +kernel
theorem d_Bd_count_56 : decode prog_1_method_13_code 56 = .ok (.aload_n 0, 1) := by decide +kernel
theorem d_Bd_count_57 : decode prog_1_method_13_code 57 = .ok (.getfield 32, 3) := by decide +kernel
theorem d_Bd_count_60 : decode prog_1_method_13_code 60 = .ok (.getfield 119, 3) := by decide +kernel
theorem d_Bd_count_63 : decode prog_1_method_13_code 63 = .ok (.ireturn, 1) := by decide +kernel
theorem d_Bd_count_64 : decode prog_1_method_13_code 64 = .ok (.aload_n 0, 1) := by decide +kernel
theorem d_Bd_count_65 : decode prog_1_method_13_code 65 = .ok (.getfield 10, 3) := by decide +kernel
theorem d_Bd_count_68 : decode prog_1_method_13_code 68 = .ok (.getfield 53, 3) := by decide +kernel
theorem d_Bd_count_71 : decode prog_1_method_13_code 71 = .ok (.ireturn, 1) := by decide +kernel
theorem d_Bd_count_72 : decode prog_1_method_13_code 72 = .ok (.aload_n 0, 1) := by decide +kernel
theorem d_Bd_count_73 : decode prog_1_method_13_code 73 = .ok (.getfield 45, 3) := by decide +kernel
theorem d_Bd_count_76 : decode prog_1_method_13_code 76 = .ok (.ireturn, 1) := by decide +kernel
theorem d_Bd_count_77 : decode prog_1_method_13_code 77 = .ok (.iconst (-1), 1) := by decide +kernel
theorem d_Bd_count_78 : decode prog_1_method_13_code 78 = .ok (.ireturn, 1) := by decide +kernel
theorem d_Fi_countOfSort_0 : decode prog_3_method_5_code 0 = .ok (.iconst 0, 1) := by decide +kernel
theorem d_Fi_countOfSort_1 : decode prog_3_method_5_code 1 = .ok (.istore_n 2, 1) := by decide +kernel
theorem d_Fi_countOfSort_2 : decode prog_3_method_5_code 2 = .ok (.iconst 0, 1) := by decide +kernel
theorem d_Fi_countOfSort_3 : decode prog_3_method_5_code 3 = .ok (.istore_n 3, 1) := by decide +kernel
theorem d_Fi_countOfSort_4 : decode prog_3_method_5_code 4 = .ok (.iload_n 3, 1) := by decide +kernel
theorem d_Fi_countOfSort_5 : decode prog_3_method_5_code 5 = .ok (.aload_n 0, 1) := by decide +kernel
theorem d_Fi_countOfSort_6 : decode prog_3_method_5_code 6 = .ok (.getfield 17, 3) := by decide +kernel
theorem d_Fi_countOfSort_9 : decode prog_3_method_5_code 9 = .ok (.if_icmp .ge 28, 3) := by decide +kernel
theorem d_Fi_countOfSort_12 : decode prog_3_method_5_code 12 = .ok (.aload_n 0, 1) := by decide +kernel
theorem d_Fi_countOfSort_13 : decode prog_3_method_5_code 13 = .ok (.getfield 11, 3) := by decide +kernel
theorem d_Fi_countOfSort_16 : decode prog_3_method_5_code 16 = .ok (.iload_n 3, 1) := by decide +kernel
theorem d_Fi_countOfSort_17 : decode prog_3_method_5_code 17 = .ok (.aaload, 1) := by decide +kernel
theorem d_Fi_countOfSort_18 : decode prog_3_method_5_code 18 = .ok (.getfield 29, 3) := by decide +kernel
theorem d_Fi_countOfSort_21 : decode prog_3_method_5_code 21 = .ok (.getfield 33, 3) := by decide +kernel
theorem d_Fi_countOfSort_24 : decode prog_3_method_5_code 24 = .ok (.iload_n 1, 1) := by decide +kernel
theorem d_Fi_countOfSort_25 : decode prog_3_method_5_code 25 = .ok (.if_icmp .ne 6, 3) := by decide +kernel
theorem d_Fi_countOfSort_28 : decode prog_3_method_5_code 28 = .ok (.iinc 2 1, 3) := by decide +kernel
theorem d_Fi_countOfSort_31 : decode prog_3_method_5_code 31 = .ok (.iinc 3 1, 3) := by decide +kernel
theorem d_Fi_countOfSort_34 : decode prog_3_method_5_code 34 = .ok (.goto (-30), 3) := by decide +kernel
theorem d_Fi_countOfSort_37 : decode prog_3_method_5_code 37 = .ok (.iload_n 2, 1) := by decide +kernel
theorem d_Fi_countOfSort_38 : decode prog_3_method_5_code 38 = .ok (.ireturn, 1) := by decide +kernel
theorem d_Bd_path_0 : decode prog_1_method_3_code 0 = .ok (.aload_n 0, 1) := by decide +kernel
theorem d_Bd_path_1 : decode prog_1_method_3_code 1 = .ok (.getfield 10, 3) := by decide +kernel
theorem d_Bd_path_4 : decode prog_1_method_3_code 4 = .ok (.getfield 53, 3) := by decide +kernel
theorem d_Bd_path_7 : decode prog_1_method_3_code 7 = .ok (.bipush 100, 2) := by decide +kernel
theorem d_Bd_path_9 : decode prog_1_method_3_code 9 = .ok (.if_icmp .le 13, 3) := by decide +kernel
theorem d_Bd_path_12 : decode prog_1_method_3_code 12 = .ok (.new 56, 3) := by decide +kernel
theorem d_Bd_path_15 : decode prog_1_method_3_code 15 = .ok (.dup, 1) := by decide +kernel
theorem d_Bd_path_16 : decode prog_1_method_3_code 16 = .ok (.ldc 58, 2) := by decide +kernel
theorem d_Bd_path_18 : decode prog_1_method_3_code 18 = .ok (.invokespecial 60, 3) := by decide +kernel
theorem d_Bd_path_21 : decode prog_1_method_3_code 21 = .ok (.athrow, 1) := by decide +kernel
theorem d_Bd_path_22 : decode prog_1_method_3_code 22 = .ok (.aload_n 0, 1) := by decide +kernel
theorem d_Bd_path_23 : decode prog_1_method_3_code 23 = .ok (.aload_n 0, 1) := by decide +kernel
theorem d_Bd_path_24 : decode prog_1_method_3_code 24 = .ok (.getfield 10, 3) := by decide +kernel
theorem d_Bd_path_27 : decode prog_1_method_3_code 27 = .ok (.invokevirtual 63, 3) := by decide +kernel
theorem d_Bd_path_30 : decode prog_1_method_3_code 30 = .ok (.putfield 41, 3) := by decide +kernel
theorem d_Bd_path_33 : decode prog_1_method_3_code 33 = .ok (.aload_n 0, 1) := by decide +kernel
theorem d_Bd_path_34 : decode prog_1_method_3_code 34 = .ok (.getfield 41, 3) := by decide +kernel
theorem d_Bd_path_37 : decode prog_1_method_3_code 37 = .ok (.invokevirtual 67, 3) := by decide +kernel
theorem d_Bd_path_40 : decode prog_1_method_3_code 40 = .ok (.ireturn, 1) := by decide +kernel
theorem d_Tp_take_0 : decode prog_8_method_3_code 0 = .ok (.new 19, 3) := by decide +kernel
theorem d_Tp_take_3 : decode prog_8_method_3_code 3 = .ok (.dup, 1) := by decide +kernel
theorem d_Tp_take_4 : decode prog_8_method_3_code 4 = .ok (.aload_n 0, 1) := by decide +kernel
theorem d_Tp_take_5 : decode prog_8_method_3_code 5 = .ok (.getfield 9, 3) := by decide +kernel
theorem d_Tp_take_8 : decode prog_8_method_3_code 8 = .ok (.aload_n 0, 1) := by decide +kernel
theorem d_Tp_take_9 : decode prog_8_method_3_code 9 = .ok (.getfield 15, 3) := by decide +kernel
theorem d_Tp_take_12 : decode prog_8_method_3_code 12 = .ok (.invokestatic 21, 3) := by decide +kernel
theorem d_Tp_take_15 : decode prog_8_method_3_code 15 = .ok (.invokespecial 27, 3) := by decide +kernel
theorem d_Tp_take_18 : decode prog_8_method_3_code 18 = .ok (.astore_n 1, 1) := by decide +kernel
theorem d_Tp_take_19 : decode prog_8_method_3_code 19 = .ok (.aload_n 0, 1) := by decide +kernel
theorem d_Tp_take_20 : decode prog_8_method_3_code 20 = .ok (.iconst 0, 1) := by decide +kernel
theorem d_Tp_take_21 : decode prog_8_method_3_code 21 = .ok (.putfield 15, 3) := by decide +kernel
theorem d_Tp_take_24 : decode prog_8_method_3_code 24 = .ok (.aload_n 1, 1) := by decide +kernel
theorem d_Tp_take_25 : decode prog_8_method_3_code 25 = .ok (.areturn, 1) := by decide +kernel
theorem d_Ar_copyOf_0 : decode prog_22_method_121_code 0 = .ok (.iload_n 1, 1) := by decide +kernel
theorem d_Ar_copyOf_1 : decode prog_22_method_121_code 1 = .ok (.aload_n 0, 1) := by decide +kernel
theorem d_Ar_copyOf_2 : decode prog_22_method_121_code 2 = .ok (.arraylength, 1) := by decide +kernel
theorem d_Ar_copyOf_3 : decode prog_22_method_121_code 3 = .ok (.if_icmp .ne 11, 3) := by decide +kernel
theorem d_Ar_copyOf_6 : decode prog_22_method_121_code 6 = .ok (.aload_n 0, 1) := by decide +kernel
theorem d_Ar_copyOf_7 : decode prog_22_method_121_code 7 = .ok (.invokevirtual 310, 3) := by decide +kernel
theorem d_Ar_copyOf_10 : decode prog_22_method_121_code 10 = .ok (.checkcast 311, 3) := by decide +kernel
theorem d_Ar_copyOf_13 : decode prog_22_method_121_code 13 = .ok (.areturn, 1) := by decide +kernel
theorem d_Ar_copyOf_14 : decode prog_22_method_121_code 14 = .ok (.iload_n 1, 1) := by decide +kernel
theorem d_Ar_copyOf_15 : decode prog_22_method_121_code 15 = .ok (.newarray .byte, 2) := by decide +kernel
theorem d_Ar_copyOf_17 : decode prog_22_method_121_code 17 = .ok (.astore_n 2, 1) := by decide +kernel
theorem d_Ar_copyOf_18 : decode prog_22_method_121_code 18 = .ok (.aload_n 0, 1) := by decide +kernel
theorem d_Ar_copyOf_19 : decode prog_22_method_121_code 19 = .ok (.iconst 0, 1) := by decide +kernel
theorem d_Ar_copyOf_20 : decode prog_22_method_121_code 20 = .ok (.aload_n 2, 1) := by decide +kernel
theorem d_Ar_copyOf_21 : decode prog_22_method_121_code 21 = .ok (.iconst 0, 1) := by decide +kernel
theorem d_Ar_copyOf_22 : decode prog_22_method_121_code 22 = .ok (.aload_n 0, 1) := by decide +kernel
theorem d_Ar_copyOf_23 : decode prog_22_method_121_code 23 = .ok (.arraylength, 1) := by decide +kernel
theorem d_Ar_copyOf_24 : decode prog_22_method_121_code 24 = .ok (.iload_n 1, 1) := by decide +kernel
theorem d_Ar_copyOf_25 : decode prog_22_method_121_code 25 = .ok (.invokestatic 304, 3) := by decide +kernel
theorem d_Ar_copyOf_28 : decode prog_22_method_121_code 28 = .ok (.invokestatic 150, 3) := by decide +kernel
theorem d_Ar_copyOf_31 : decode prog_22_method_121_code 31 = .ok (.aload_n 2, 1) := by decide +kernel
theorem d_Ar_copyOf_32 : decode prog_22_method_121_code 32 = .ok (.areturn, 1) := by decide +kernel
theorem d_Ma_min_0 : decode prog_17_method_69_code 0 = .ok (.iload_n 0, 1) := by decide +kernel
theorem d_Ma_min_1 : decode prog_17_method_69_code 1 = .ok (.iload_n 1, 1) := by decide +kernel
theorem d_Ma_min_2 : decode prog_17_method_69_code 2 = .ok (.if_icmp .gt 7, 3) := by decide +kernel
theorem d_Ma_min_5 : decode prog_17_method_69_code 5 = .ok (.iload_n 0, 1) := by decide +kernel
theorem d_Ma_min_6 : decode prog_17_method_69_code 6 = .ok (.goto 4, 3) := by decide +kernel
theorem d_Ma_min_9 : decode prog_17_method_69_code 9 = .ok (.iload_n 1, 1) := by decide +kernel
theorem d_Ma_min_10 : decode prog_17_method_69_code 10 = .ok (.ireturn, 1) := by decide +kernel
theorem d_Bd_write_0 : decode prog_1_method_4_code 0 = .ok (.iload_n 1, 1) := by decide +kernel
theorem d_Bd_write_1 : decode prog_1_method_4_code 1 = .ok (.iload_n 2, 1) := by decide +kernel
theorem d_Bd_write_2 : decode prog_1_method_4_code 2 = .ok (.invokestatic 70, 3) := by decide +kernel
theorem d_Bd_write_5 : decode prog_1_method_4_code 5 = .ok (.aload_n 0, 1) := by decide +kernel
theorem d_Bd_write_6 : decode prog_1_method_4_code 6 = .ok (.iload_n 1, 1) := by decide +kernel
theorem d_Bd_write_7 : decode prog_1_method_4_code 7 = .ok (.iload_n 2, 1) := by decide +kernel
theorem d_Bd_write_8 : decode prog_1_method_4_code 8 = .ok (.invokevirtual 74, 3) := by decide +kernel
theorem d_Bd_write_11 : decode prog_1_method_4_code 11 = .ok (.astore_n 3, 1) := by decide +kernel
theorem d_Bd_write_12 : decode prog_1_method_4_code 12 = .ok (.aload_n 0, 1) := by decide +kernel
theorem d_Bd_write_13 : decode prog_1_method_4_code 13 = .ok (.getfield 19, 3) := by decide +kernel
theorem d_Bd_write_16 : decode prog_1_method_4_code 16 = .ok (.invokevirtual 78, 3) := by decide +kernel
theorem d_Bd_write_19 : decode prog_1_method_4_code 19 = .ok (.ifCond .eq 24, 3) := by decide +kernel
theorem d_Bd_write_22 : decode prog_1_method_4_code 22 = .ok (.aload_n 0, 1) := by decide +kernel
theorem d_Bd_write_23 : decode prog_1_method_4_code 23 = .ok (.getfield 19, 3) := by decide +kernel
theorem d_Bd_write_26 : decode prog_1_method_4_code 26 = .ok (.aload_n 3, 1) := by decide +kernel
theorem d_Bd_write_27 : decode prog_1_method_4_code 27 = .ok (.invokevirtual 82, 3) := by decide +kernel
theorem d_Bd_write_30 : decode prog_1_method_4_code 30 = .ok (.ifnonnull 13, 3) := by decide +kernel
theorem d_Bd_write_33 : decode prog_1_method_4_code 33 = .ok (.new 86, 3) := by decide +kernel
theorem d_Bd_write_36 : decode prog_1_method_4_code 36 = .ok (.dup, 1) := by decide +kernel
theorem d_Bd_write_37 : decode prog_1_method_4_code 37 = .ok (.ldc 88, 2) := by decide +kernel
theorem d_Bd_write_39 : decode prog_1_method_4_code 39 = .ok (.invokespecial 90, 3) := by decide +kernel
theorem d_Bd_write_42 : decode prog_1_method_4_code 42 = .ok (.athrow, 1) := by decide +kernel
theorem d_Bd_write_43 : decode prog_1_method_4_code 43 = .ok (.aload_n 0, 1) := by decide +kernel
theorem d_Bd_write_44 : decode prog_1_method_4_code 44 = .ok (.invokevirtual 91, 3) := by decide +kernel
theorem d_Bd_write_47 : decode prog_1_method_4_code 47 = .ok (.aload_n 0, 1) := by decide +kernel
theorem d_Bd_write_48 : decode prog_1_method_4_code 48 = .ok (.new 94, 3) := by decide +kernel
theorem d_Bd_write_51 : decode prog_1_method_4_code 51 = .ok (.dup, 1) := by decide +kernel
theorem d_Bd_write_52 : decode prog_1_method_4_code 52 = .ok (.aload_n 3, 1) := by decide +kernel
theorem d_Bd_write_53 : decode prog_1_method_4_code 53 = .ok (.new 96, 3) := by decide +kernel
theorem d_Bd_write_56 : decode prog_1_method_4_code 56 = .ok (.dup, 1) := by decide +kernel
theorem d_Bd_write_57 : decode prog_1_method_4_code 57 = .ok (.aload_n 3, 1) := by decide +kernel
theorem d_Bd_write_58 : decode prog_1_method_4_code 58 = .ok (.aload_n 0, 1) := by decide +kernel
theorem d_Bd_write_59 : decode prog_1_method_4_code 59 = .ok (.getfield 10, 3) := by decide +kernel
theorem d_Bd_write_62 : decode prog_1_method_4_code 62 = .ok (.invokevirtual 63, 3) := by decide +kernel
theorem d_Bd_write_65 : decode prog_1_method_4_code 65 = .ok (.invokespecial 98, 3) := by decide +kernel
theorem d_Bd_write_68 : decode prog_1_method_4_code 68 = .ok (.invokespecial 101, 3) := by decide +kernel
theorem d_Bd_write_71 : decode prog_1_method_4_code 71 = .ok (.invokevirtual 104, 3) := by decide +kernel
theorem d_Bd_write_74 : decode prog_1_method_4_code 74 = .ok (.return_, 1) := by decide +kernel
theorem d_Bd_refuseWrongName_0 : decode prog_1_method_15_code 0 = .ok (.iload_n 0, 1) := by decide +kernel
theorem d_Bd_refuseWrongName_1 : decode prog_1_method_15_code 1 = .ok (.invokestatic 143, 3) := by decide +kernel
theorem d_Bd_refuseWrongName_4 : decode prog_1_method_15_code 4 = .ok (.ifCond .eq 7, 3) := by decide +kernel
theorem d_Bd_refuseWrongName_7 : decode prog_1_method_15_code 7 = .ok (.iload_n 1, 1) := by decide +kernel
theorem d_Bd_refuseWrongName_8 : decode prog_1_method_15_code 8 = .ok (.ifCond .ge 13, 3) := by decide +kernel
theorem d_Bd_refuseWrongName_11 : decode prog_1_method_15_code 11 = .ok (.new 167, 3) := by decide +kernel
theorem d_Bd_refuseWrongName_14 : decode prog_1_method_15_code 14 = .ok (.dup, 1) := by decide +kernel
theorem d_Bd_refuseWrongName_15 : decode prog_1_method_15_code 15 = .ok (.ldc 169, 2) := by decide +kernel
theorem d_Bd_refuseWrongName_17 : decode prog_1_method_15_code 17 = .ok (.invokespecial 171, 3) := by decide +kernel
theorem d_Bd_refuseWrongName_20 : decode prog_1_method_15_code 20 = .ok (.athrow, 1) := by decide +kernel
theorem d_Bd_refuseWrongName_21 : decode prog_1_method_15_code 21 = .ok (.return_, 1) := by decide +kernel
theorem d_Fi_isFull_0 : decode prog_3_method_2_code 0 = .ok (.aload_n 0, 1) := by decide +kernel
theorem d_Fi_isFull_1 : decode prog_3_method_2_code 1 = .ok (.getfield 17, 3) := by decide +kernel
theorem d_Fi_isFull_4 : decode prog_3_method_2_code 4 = .ok (.aload_n 0, 1) := by decide +kernel
theorem d_Fi_isFull_5 : decode prog_3_method_2_code 5 = .ok (.getfield 11, 3) := by decide +kernel
theorem d_Fi_isFull_8 : decode prog_3_method_2_code 8 = .ok (.arraylength, 1) := by decide +kernel
theorem d_Fi_isFull_9 : decode prog_3_method_2_code 9 = .ok (.if_icmp .lt 7, 3) := by decide +kernel
theorem d_Fi_isFull_12 : decode prog_3_method_2_code 12 = .ok (.iconst 1, 1) := by decide +kernel
theorem d_Fi_isFull_13 : decode prog_3_method_2_code 13 = .ok (.goto 4, 3) := by decide +kernel
theorem d_Fi_isFull_16 : decode prog_3_method_2_code 16 = .ok (.iconst 0, 1) := by decide +kernel
theorem d_Fi_isFull_17 : decode prog_3_method_2_code 17 = .ok (.ireturn, 1) := by decide +kernel
theorem d_Bd_refuseFullJournal_0 : decode prog_1_method_16_code 0 = .ok (.aload_n 0, 1) := by decide +kernel
theorem d_Bd_refuseFullJournal_1 : decode prog_1_method_16_code 1 = .ok (.getfield 32, 3) := by decide +kernel
theorem d_Bd_refuseFullJournal_4 : decode prog_1_method_16_code 4 = .ok (.invokevirtual 172, 3) := by decide +kernel
theorem d_Bd_refuseFullJournal_7 : decode prog_1_method_16_code 7 = .ok (.ifCond .eq 13, 3) := by decide +kernel
theorem d_Bd_refuseFullJournal_10 : decode prog_1_method_16_code 10 = .ok (.new 86, 3) := by decide +kernel
theorem d_Bd_refuseFullJournal_13 : decode prog_1_method_16_code 13 = .ok (.dup, 1) := by decide +kernel
theorem d_Bd_refuseFullJournal_14 : decode prog_1_method_16_code 14 = .ok (.ldc 173, 2) := by decide +kernel
theorem d_Bd_refuseFullJournal_16 : decode prog_1_method_16_code 16 = .ok (.invokespecial 90, 3) := by decide +kernel
theorem d_Bd_refuseFullJournal_19 : decode prog_1_method_16_code 19 = .ok (.athrow, 1) := by decide +kernel
theorem d_Bd_refuseFullJournal_20 : decode prog_1_method_16_code 20 = .ok (.return_, 1) := by decide +kernel
theorem d_Jo_isFull_0 : decode prog_4_method_2_code 0 = .ok (.aload_n 0, 1) := by decide +kernel
theorem d_Jo_isFull_1 : decode prog_4_method_2_code 1 = .ok (.getfield 17, 3) := by decide +kernel
theorem d_Jo_isFull_4 : decode prog_4_method_2_code 4 = .ok (.aload_n 0, 1) := by decide +kernel
theorem d_Jo_isFull_5 : decode prog_4_method_2_code 5 = .ok (.getfield 11, 3) := by decide +kernel
theorem d_Jo_isFull_8 : decode prog_4_method_2_code 8 = .ok (.arraylength, 1) := by decide +kernel
theorem d_Jo_isFull_9 : decode prog_4_method_2_code 9 = .ok (.if_icmp .lt 7, 3) := by decide +kernel
theorem d_Jo_isFull_12 : decode prog_4_method_2_code 12 = .ok (.iconst 1, 1) := by decide +kernel
theorem d_Jo_isFull_13 : decode prog_4_method_2_code 13 = .ok (.goto 4, 3) := by decide +kernel
theorem d_Jo_isFull_16 : decode prog_4_method_2_code 16 = .ok (.iconst 0, 1) := by decide +kernel
theorem d_Jo_isFull_17 : decode prog_4_method_2_code 17 = .ok (.ireturn, 1) := by decide +kernel
theorem d_Sf_init_0 : decode prog_7_method_1_code 0 = .ok (.aload_n 0, 1) := by decide +kernel
theorem d_Sf_init_1 : decode prog_7_method_1_code 1 = .ok (.invokespecial 1, 3) := by decide +kernel
theorem d_Sf_init_4 : decode prog_7_method_1_code 4 = .ok (.aload_n 0, 1) := by decide +kernel
theorem d_Sf_init_5 : decode prog_7_method_1_code 5 = .ok (.aload_n 1, 1) := by decide +kernel
theorem d_Sf_init_6 : decode prog_7_method_1_code 6 = .ok (.putfield 7, 3) := by decide +kernel
theorem d_Sf_init_9 : decode prog_7_method_1_code 9 = .ok (.aload_n 0, 1) := by decide +kernel
theorem d_Sf_init_10 : decode prog_7_method_1_code 10 = .ok (.aload_n 2, 1) := by decide +kernel
theorem d_Sf_init_11 : decode prog_7_method_1_code 11 = .ok (.putfield 13, 3) := by decide +kernel
theorem d_Sf_init_14 : decode prog_7_method_1_code 14 = .ok (.return_, 1) := by decide +kernel
theorem d_Op_init_0 : decode prog_6_method_1_code 0 = .ok (.aload_n 0, 1) := by decide +kernel
theorem d_Op_init_1 : decode prog_6_method_1_code 1 = .ok (.invokespecial 1, 3) := by decide +kernel
theorem d_Op_init_4 : decode prog_6_method_1_code 4 = .ok (.aload_n 0, 1) := by decide +kernel
theorem d_Op_init_5 : decode prog_6_method_1_code 5 = .ok (.aload_n 1, 1) := by decide +kernel
theorem d_Op_init_6 : decode prog_6_method_1_code 6 = .ok (.putfield 7, 3) := by decide +kernel
theorem d_Op_init_9 : decode prog_6_method_1_code 9 = .ok (.aload_n 0, 1) := by decide +kernel
theorem d_Op_init_10 : decode prog_6_method_1_code 10 = .ok (.aload_n 2, 1) := by decide +kernel
theorem d_Op_init_11 : decode prog_6_method_1_code 11 = .ok (.putfield 13, 3) := by decide +kernel
theorem d_Op_init_14 : decode prog_6_method_1_code 14 = .ok (.return_, 1) := by decide +kernel
theorem d_Bd_perform_0 : decode prog_1_method_19_code 0 = .ok (.aload_n 0, 1) := by decide +kernel
theorem d_Bd_perform_1 : decode prog_1_method_19_code 1 = .ok (.getfield 19, 3) := by decide +kernel
theorem d_Bd_perform_4 : decode prog_1_method_19_code 4 = .ok (.aload_n 1, 1) := by decide +kernel
theorem d_Bd_perform_5 : decode prog_1_method_19_code 5 = .ok (.invokevirtual 180, 3) := by decide +kernel
theorem d_Bd_perform_8 : decode prog_1_method_19_code 8 = .ok (.aload_n 0, 1) := by decide +kernel
theorem d_Bd_perform_9 : decode prog_1_method_19_code 9 = .ok (.getfield 32, 3) := by decide +kernel
theorem d_Bd_perform_12 : decode prog_1_method_19_code 12 = .ok (.aload_n 1, 1) := by decide +kernel
theorem d_Bd_perform_13 : decode prog_1_method_19_code 13 = .ok (.invokevirtual 183, 3) := by decide +kernel
theorem d_Bd_perform_16 : decode prog_1_method_19_code 16 = .ok (.aload_n 0, 1) := by decide +kernel
theorem d_Bd_perform_17 : decode prog_1_method_19_code 17 = .ok (.dup, 1) := by decide +kernel
theorem d_Bd_perform_18 : decode prog_1_method_19_code 18 = .ok (.getfield 45, 3) := by decide +kernel
theorem d_Bd_perform_21 : decode prog_1_method_19_code 21 = .ok (.iconst 1, 1) := by decide +kernel
theorem d_Bd_perform_22 : decode prog_1_method_19_code 22 = .ok (.iadd, 1) := by decide +kernel
theorem d_Bd_perform_23 : decode prog_1_method_19_code 23 = .ok (.putfield 45, 3) := by decide +kernel
theorem d_Bd_perform_26 : decode prog_1_method_19_code 26 = .ok (.return_, 1) := by decide +kernel
theorem d_Fi_apply_0 : decode prog_3_method_6_code 0 = .ok (.aload_n 0, 1) := by decide +kernel
theorem d_Fi_apply_1 : decode prog_3_method_6_code 1 = .ok (.aload_n 1, 1) := by decide +kernel
theorem d_Fi_apply_2 : decode prog_3_method_6_code 2 = .ok (.getfield 38, 3) := by decide +kernel
theorem d_Fi_apply_5 : decode prog_3_method_6_code 5 = .ok (.invokevirtual 43, 3) := by decide +kernel
theorem d_Fi_apply_8 : decode prog_3_method_6_code 8 = .ok (.aload_n 1, 1) := by decide +kernel
theorem d_Fi_apply_9 : decode prog_3_method_6_code 9 = .ok (.getfield 47, 3) := by decide +kernel
theorem d_Fi_apply_12 : decode prog_3_method_6_code 12 = .ok (.ifnull 22, 3) := by decide +kernel
theorem d_Fi_apply_15 : decode prog_3_method_6_code 15 = .ok (.aload_n 0, 1) := by decide +kernel
theorem d_Fi_apply_16 : decode prog_3_method_6_code 16 = .ok (.aload_n 1, 1) := by decide +kernel
theorem d_Fi_apply_17 : decode prog_3_method_6_code 17 = .ok (.getfield 47, 3) := by decide +kernel
theorem d_Fi_apply_20 : decode prog_3_method_6_code 20 = .ok (.getfield 29, 3) := by decide +kernel
theorem d_Fi_apply_23 : decode prog_3_method_6_code 23 = .ok (.invokevirtual 43, 3) := by decide +kernel
theorem d_Fi_apply_26 : decode prog_3_method_6_code 26 = .ok (.aload_n 0, 1) := by decide +kernel
theorem d_Fi_apply_27 : decode prog_3_method_6_code 27 = .ok (.aload_n 1, 1) := by decide +kernel
theorem d_Fi_apply_28 : decode prog_3_method_6_code 28 = .ok (.getfield 47, 3) := by decide +kernel
theorem d_Fi_apply_31 : decode prog_3_method_6_code 31 = .ok (.invokevirtual 51, 3) := by decide +kernel
theorem d_Fi_apply_34 : decode prog_3_method_6_code 34 = .ok (.return_, 1) := by decide +kernel
theorem d_Fi_remove_0 : decode prog_3_method_10_code 0 = .ok (.aload_n 0, 1) := by decide +kernel
theorem d_Fi_remove_1 : decode prog_3_method_10_code 1 = .ok (.aload_n 1, 1) := by decide +kernel
theorem d_Fi_remove_2 : decode prog_3_method_10_code 2 = .ok (.invokevirtual 21, 3) := by decide +kernel
theorem d_Fi_remove_5 : decode prog_3_method_10_code 5 = .ok (.istore_n 2, 1) := by decide +kernel
theorem d_Fi_remove_6 : decode prog_3_method_10_code 6 = .ok (.iload_n 2, 1) := by decide +kernel
theorem d_Fi_remove_7 : decode prog_3_method_10_code 7 = .ok (.iconst (-1), 1) := by decide +kernel
theorem d_Fi_remove_8 : decode prog_3_method_10_code 8 = .ok (.if_icmp .ne 4, 3) := by decide +kernel
theorem d_Fi_remove_11 : decode prog_3_method_10_code 11 = .ok (.return_, 1) := by decide +kernel
theorem d_Fi_remove_12 : decode prog_3_method_10_code 12 = .ok (.aload_n 0, 1) := by decide +kernel
theorem d_Fi_remove_13 : decode prog_3_method_10_code 13 = .ok (.dup, 1) := by decide +kernel
theorem d_Fi_remove_14 : decode prog_3_method_10_code 14 = .ok (.getfield 17, 3) := by decide +kernel
theorem d_Fi_remove_17 : decode prog_3_method_10_code 17 = .ok (.iconst 1, 1) := by decide +kernel
theorem d_Fi_remove_18 : decode prog_3_method_10_code 18 = .ok (.isub, 1) := by decide +kernel
theorem d_Fi_remove_19 : decode prog_3_method_10_code 19 = .ok (.putfield 17, 3) := by decide +kernel
theorem d_Fi_remove_22 : decode prog_3_method_10_code 22 = .ok (.iload_n 2, 1) := by decide +kernel
theorem d_Fi_remove_23 : decode prog_3_method_10_code 23 = .ok (.istore_n 3, 1) := by decide +kernel
theorem d_Fi_remove_24 : decode prog_3_method_10_code 24 = .ok (.iload_n 3, 1) := by decide +kernel
theorem d_Fi_remove_25 : decode prog_3_method_10_code 25 = .ok (.aload_n 0, 1) := by decide +kernel
theorem d_Fi_remove_26 : decode prog_3_method_10_code 26 = .ok (.getfield 17, 3) := by decide +kernel
theorem d_Fi_remove_29 : decode prog_3_method_10_code 29 = .ok (.if_icmp .ge 23, 3) := by decide +kernel
theorem d_Fi_remove_32 : decode prog_3_method_10_code 32 = .ok (.aload_n 0, 1) := by decide +kernel
theorem d_Fi_remove_33 : decode prog_3_method_10_code 33 = .ok (.getfield 11, 3) := by decide +kernel
theorem d_Fi_remove_36 : decode prog_3_method_10_code 36 = .ok (.iload_n 3, 1) := by decide +kernel
theorem d_Fi_remove_37 : decode prog_3_method_10_code 37 = .ok (.aload_n 0, 1) := by decide +kernel
theorem d_Fi_remove_38 : decode prog_3_method_10_code 38 = .ok (.getfield 11, 3) := by decide +kernel
theorem d_Fi_remove_41 : decode prog_3_method_10_code 41 = .ok (.iload_n 3, 1) := by decide +kernel
theorem d_Fi_remove_42 : decode prog_3_method_10_code 42 = .ok (.iconst 1, 1) := by decide +kernel
theorem d_Fi_remove_43 : decode prog_3_method_10_code 43 = .ok (.iadd, 1) := by decide +kernel
theorem d_Fi_remove_44 : decode prog_3_method_10_code 44 = .ok (.aaload, 1) := by decide +kernel
theorem d_Fi_remove_45 : decode prog_3_method_10_code 45 = .ok (.aastore, 1) := by decide +kernel
theorem d_Fi_remove_46 : decode prog_3_method_10_code 46 = .ok (.iinc 3 1, 3) := by decide +kernel
theorem d_Fi_remove_49 : decode prog_3_method_10_code 49 = .ok (.goto (-25), 3) := by decide +kernel
theorem d_Fi_remove_52 : decode prog_3_method_10_code 52 = .ok (.return_, 1) := by decide +kernel
theorem d_Fi_insert_0 : decode prog_3_method_11_code 0 = .ok (.aload_n 0, 1) := by decide +kernel
theorem d_Fi_insert_1 : decode prog_3_method_11_code 1 = .ok (.invokevirtual 58, 3) := by decide +kernel
theorem d_Fi_insert_4 : decode prog_3_method_11_code 4 = .ok (.ifCond .eq 4, 3) := by decide +kernel
theorem d_Fi_insert_7 : decode prog_3_method_11_code 7 = .ok (.return_, 1) := by decide +kernel
theorem d_Fi_insert_8 : decode prog_3_method_11_code 8 = .ok (.aload_n 0, 1) := by decide +kernel
theorem d_Fi_insert_9 : decode prog_3_method_11_code 9 = .ok (.getfield 17, 3) := by decide +kernel
theorem d_Fi_insert_12 : decode prog_3_method_11_code 12 = .ok (.istore_n 2, 1) := by decide +kernel
theorem d_Fi_insert_13 : decode prog_3_method_11_code 13 = .ok (.iload_n 2, 1) := by decide +kernel
theorem d_Fi_insert_14 : decode prog_3_method_11_code 14 = .ok (.ifCond .le 44, 3) := by decide +kernel
theorem d_Fi_insert_17 : decode prog_3_method_11_code 17 = .ok (.aload_n 1, 1) := by decide +kernel
theorem d_Fi_insert_18 : decode prog_3_method_11_code 18 = .ok (.getfield 29, 3) := by decide +kernel
theorem d_Fi_insert_21 : decode prog_3_method_11_code 21 = .ok (.aload_n 0, 1) := by decide +kernel
theorem d_Fi_insert_22 : decode prog_3_method_11_code 22 = .ok (.getfield 11, 3) := by decide +kernel
theorem d_Fi_insert_25 : decode prog_3_method_11_code 25 = .ok (.iload_n 2, 1) := by decide +kernel
theorem d_Fi_insert_26 : decode prog_3_method_11_code 26 = .ok (.iconst 1, 1) := by decide +kernel
theorem d_Fi_insert_27 : decode prog_3_method_11_code 27 = .ok (.isub, 1) := by decide +kernel
theorem d_Fi_insert_28 : decode prog_3_method_11_code 28 = .ok (.aaload, 1) := by decide +kernel
theorem d_Fi_insert_29 : decode prog_3_method_11_code 29 = .ok (.getfield 29, 3) := by decide +kernel
theorem d_Fi_insert_32 : decode prog_3_method_11_code 32 = .ok (.invokevirtual 55, 3) := by decide +kernel
theorem d_Fi_insert_35 : decode prog_3_method_11_code 35 = .ok (.ifCond .ge 23, 3) := by decide +kernel
theorem d_Fi_insert_38 : decode prog_3_method_11_code 38 = .ok (.aload_n 0, 1) := by decide +kernel
theorem d_Fi_insert_39 : decode prog_3_method_11_code 39 = .ok (.getfield 11, 3) := by decide +kernel
theorem d_Fi_insert_42 : decode prog_3_method_11_code 42 = .ok (.iload_n 2, 1) := by decide +kernel
theorem d_Fi_insert_43 : decode prog_3_method_11_code 43 = .ok (.aload_n 0, 1) := by decide +kernel
theorem d_Fi_insert_44 : decode prog_3_method_11_code 44 = .ok (.getfield 11, 3) := by decide +kernel
theorem d_Fi_insert_47 : decode prog_3_method_11_code 47 = .ok (.iload_n 2, 1) := by decide +kernel
theorem d_Fi_insert_48 : decode prog_3_method_11_code 48 = .ok (.iconst 1, 1) := by decide +kernel
theorem d_Fi_insert_49 : decode prog_3_method_11_code 49 = .ok (.isub, 1) := by decide +kernel
theorem d_Fi_insert_50 : decode prog_3_method_11_code 50 = .ok (.aaload, 1) := by decide +kernel
theorem d_Fi_insert_51 : decode prog_3_method_11_code 51 = .ok (.aastore, 1) := by decide +kernel
theorem d_Fi_insert_52 : decode prog_3_method_11_code 52 = .ok (.iinc 2 (-1), 3) := by decide +kernel
theorem d_Fi_insert_55 : decode prog_3_method_11_code 55 = .ok (.goto (-42), 3) := by decide +kernel
theorem d_Fi_insert_58 : decode prog_3_method_11_code 58 = .ok (.aload_n 0, 1) := by decide +kernel
theorem d_Fi_insert_59 : decode prog_3_method_11_code 59 = .ok (.getfield 11, 3) := by decide +kernel
theorem d_Fi_insert_62 : decode prog_3_method_11_code 62 = .ok (.iload_n 2, 1) := by decide +kernel
theorem d_Fi_insert_63 : decode prog_3_method_11_code 63 = .ok (.aload_n 1, 1) := by decide +kernel
theorem d_Fi_insert_64 : decode prog_3_method_11_code 64 = .ok (.aastore, 1) := by decide +kernel
theorem d_Fi_insert_65 : decode prog_3_method_11_code 65 = .ok (.aload_n 0, 1) := by decide +kernel
theorem d_Fi_insert_66 : decode prog_3_method_11_code 66 = .ok (.dup, 1) := by decide +kernel
theorem d_Fi_insert_67 : decode prog_3_method_11_code 67 = .ok (.getfield 17, 3) := by decide +kernel
theorem d_Fi_insert_70 : decode prog_3_method_11_code 70 = .ok (.iconst 1, 1) := by decide +kernel
theorem d_Fi_insert_71 : decode prog_3_method_11_code 71 = .ok (.iadd, 1) := by decide +kernel
theorem d_Fi_insert_72 : decode prog_3_method_11_code 72 = .ok (.putfield 17, 3) := by decide +kernel
theorem d_Fi_insert_75 : decode prog_3_method_11_code 75 = .ok (.return_, 1) := by decide +kernel
theorem d_Jo_append_0 : decode prog_4_method_3_code 0 = .ok (.aload_n 0, 1) := by decide +kernel
theorem d_Jo_append_1 : decode prog_4_method_3_code 1 = .ok (.getfield 17, 3) := by decide +kernel
theorem d_Jo_append_4 : decode prog_4_method_3_code 4 = .ok (.aload_n 0, 1) := by decide +kernel
theorem d_Jo_append_5 : decode prog_4_method_3_code 5 = .ok (.getfield 11, 3) := by decide +kernel
theorem d_Jo_append_8 : decode prog_4_method_3_code 8 = .ok (.arraylength, 1) := by decide +kernel
theorem d_Jo_append_9 : decode prog_4_method_3_code 9 = .ok (.if_icmp .ge 23, 3) := by decide +kernel
theorem d_Jo_append_12 : decode prog_4_method_3_code 12 = .ok (.aload_n 0, 1) := by decide +kernel
theorem d_Jo_append_13 : decode prog_4_method_3_code 13 = .ok (.getfield 11, 3) := by decide +kernel
theorem d_Jo_append_16 : decode prog_4_method_3_code 16 = .ok (.aload_n 0, 1) := by decide +kernel
theorem d_Jo_append_17 : decode prog_4_method_3_code 17 = .ok (.getfield 17, 3) := by decide +kernel
theorem d_Jo_append_20 : decode prog_4_method_3_code 20 = .ok (.aload_n 1, 1) := by decide +kernel
theorem d_Jo_append_21 : decode prog_4_method_3_code 21 = .ok (.aastore, 1) := by decide +kernel
theorem d_Jo_append_22 : decode prog_4_method_3_code 22 = .ok (.aload_n 0, 1) := by decide +kernel
theorem d_Jo_append_23 : decode prog_4_method_3_code 23 = .ok (.dup, 1) := by decide +kernel
theorem d_Jo_append_24 : decode prog_4_method_3_code 24 = .ok (.getfield 17, 3) := by decide +kernel
theorem d_Jo_append_27 : decode prog_4_method_3_code 27 = .ok (.iconst 1, 1) := by decide +kernel
theorem d_Jo_append_28 : decode prog_4_method_3_code 28 = .ok (.iadd, 1) := by decide +kernel
theorem d_Jo_append_29 : decode prog_4_method_3_code 29 = .ok (.putfield 17, 3) := by decide +kernel
theorem d_Jo_append_32 : decode prog_4_method_3_code 32 = .ok (.return_, 1) := by decide +kernel
theorem d_Bd_rename_0 : decode prog_1_method_5_code 0 = .ok (.iload_n 1, 1) := by decide +kernel
theorem d_Bd_rename_1 : decode prog_1_method_5_code 1 = .ok (.iload_n 2, 1) := by decide +kernel
theorem d_Bd_rename_2 : decode prog_1_method_5_code 2 = .ok (.invokestatic 70, 3) := by decide +kernel
theorem d_Bd_rename_5 : decode prog_1_method_5_code 5 = .ok (.iload_n 3, 1) := by decide +kernel
theorem d_Bd_rename_6 : decode prog_1_method_5_code 6 = .ok (.iload 4, 2) := by decide +kernel
theorem d_Bd_rename_8 : decode prog_1_method_5_code 8 = .ok (.invokestatic 70, 3) := by decide +kernel
theorem d_Bd_rename_11 : decode prog_1_method_5_code 11 = .ok (.aload_n 0, 1) := by decide +kernel
theorem d_Bd_rename_12 : decode prog_1_method_5_code 12 = .ok (.iload_n 1, 1) := by decide +kernel
theorem d_Bd_rename_13 : decode prog_1_method_5_code 13 = .ok (.iload_n 2, 1) := by decide +kernel
theorem d_Bd_rename_14 : decode prog_1_method_5_code 14 = .ok (.invokevirtual 108, 3) := by decide +kernel
theorem d_Bd_rename_17 : decode prog_1_method_5_code 17 = .ok (.astore 5, 2) := by decide +kernel
theorem d_Bd_rename_19 : decode prog_1_method_5_code 19 = .ok (.aload_n 0, 1) := by decide +kernel
theorem d_Bd_rename_20 : decode prog_1_method_5_code 20 = .ok (.invokevirtual 91, 3) := by decide +kernel
theorem d_Bd_rename_23 : decode prog_1_method_5_code 23 = .ok (.aload_n 0, 1) := by decide +kernel
theorem d_Bd_rename_24 : decode prog_1_method_5_code 24 = .ok (.new 94, 3) := by decide +kernel
theorem d_Bd_rename_27 : decode prog_1_method_5_code 27 = .ok (.dup, 1) := by decide +kernel
theorem d_Bd_rename_28 : decode prog_1_method_5_code 28 = .ok (.aload 5, 2) := by decide +kernel
theorem d_Bd_rename_30 : decode prog_1_method_5_code 30 = .ok (.getfield 112, 3) := by decide +kernel
theorem d_Bd_rename_33 : decode prog_1_method_5_code 33 = .ok (.new 96, 3) := by decide +kernel
theorem d_Bd_rename_36 : decode prog_1_method_5_code 36 = .ok (.dup, 1) := by decide +kernel
theorem d_Bd_rename_37 : decode prog_1_method_5_code 37 = .ok (.aload_n 0, 1) := by decide +kernel
theorem d_Bd_rename_38 : decode prog_1_method_5_code 38 = .ok (.iload_n 3, 1) := by decide +kernel
theorem d_Bd_rename_39 : decode prog_1_method_5_code 39 = .ok (.iload 4, 2) := by decide +kernel
theorem d_Bd_rename_41 : decode prog_1_method_5_code 41 = .ok (.invokevirtual 74, 3) := by decide +kernel
theorem d_Bd_rename_44 : decode prog_1_method_5_code 44 = .ok (.aload 5, 2) := by decide +kernel
theorem d_Bd_rename_46 : decode prog_1_method_5_code 46 = .ok (.getfield 116, 3) := by decide +kernel
theorem d_Bd_rename_49 : decode prog_1_method_5_code 49 = .ok (.invokespecial 98, 3) := by decide +kernel
theorem d_Bd_rename_52 : decode prog_1_method_5_code 52 = .ok (.invokespecial 101, 3) := by decide +kernel
theorem d_Bd_rename_55 : decode prog_1_method_5_code 55 = .ok (.invokevirtual 104, 3) := by decide +kernel
theorem d_Bd_rename_58 : decode prog_1_method_5_code 58 = .ok (.return_, 1) := by decide +kernel
theorem d_Bd_fileToChange_0 : decode prog_1_method_17_code 0 = .ok (.aload_n 0, 1) := by decide +kernel
theorem d_Bd_fileToChange_1 : decode prog_1_method_17_code 1 = .ok (.getfield 19, 3) := by decide +kernel
theorem d_Bd_fileToChange_4 : decode prog_1_method_17_code 4 = .ok (.aload_n 0, 1) := by decide +kernel
theorem d_Bd_fileToChange_5 : decode prog_1_method_17_code 5 = .ok (.iload_n 1, 1) := by decide +kernel
theorem d_Bd_fileToChange_6 : decode prog_1_method_17_code 6 = .ok (.iload_n 2, 1) := by decide +kernel
theorem d_Bd_fileToChange_7 : decode prog_1_method_17_code 7 = .ok (.invokevirtual 74, 3) := by decide +kernel
theorem d_Bd_fileToChange_10 : decode prog_1_method_17_code 10 = .ok (.invokevirtual 82, 3) := by decide +kernel
theorem d_Bd_fileToChange_13 : decode prog_1_method_17_code 13 = .ok (.astore_n 3, 1) := by decide +kernel
theorem d_Bd_fileToChange_14 : decode prog_1_method_17_code 14 = .ok (.aload_n 3, 1) := by decide +kernel
theorem d_Bd_fileToChange_15 : decode prog_1_method_17_code 15 = .ok (.ifnonnull 13, 3) := by decide +kernel
theorem d_Bd_fileToChange_18 : decode prog_1_method_17_code 18 = .ok (.new 56, 3) := by decide +kernel
theorem d_Bd_fileToChange_21 : decode prog_1_method_17_code 21 = .ok (.dup, 1) := by decide +kernel
theorem d_Bd_fileToChange_22 : decode prog_1_method_17_code 22 = .ok (.ldc 175, 2) := by decide +kernel
theorem d_Bd_fileToChange_24 : decode prog_1_method_17_code 24 = .ok (.invokespecial 60, 3) := by decide +kernel
theorem d_Bd_fileToChange_27 : decode prog_1_method_17_code 27 = .ok (.athrow, 1) := by decide +kernel
theorem d_Bd_fileToChange_28 : decode prog_1_method_17_code 28 = .ok (.aload_n 3, 1) := by decide +kernel
theorem d_Bd_fileToChange_29 : decode prog_1_method_17_code 29 = .ok (.areturn, 1) := by decide +kernel
theorem d_Bd_delete_0 : decode prog_1_method_6_code 0 = .ok (.iload_n 1, 1) := by decide +kernel
theorem d_Bd_delete_1 : decode prog_1_method_6_code 1 = .ok (.iload_n 2, 1) := by decide +kernel
theorem d_Bd_delete_2 : decode prog_1_method_6_code 2 = .ok (.invokestatic 70, 3) := by decide +kernel
theorem d_Bd_delete_5 : decode prog_1_method_6_code 5 = .ok (.aload_n 0, 1) := by decide +kernel
theorem d_Bd_delete_6 : decode prog_1_method_6_code 6 = .ok (.iload_n 1, 1) := by decide +kernel
theorem d_Bd_delete_7 : decode prog_1_method_6_code 7 = .ok (.iload_n 2, 1) := by decide +kernel
theorem d_Bd_delete_8 : decode prog_1_method_6_code 8 = .ok (.invokevirtual 108, 3) := by decide +kernel
theorem d_Bd_delete_11 : decode prog_1_method_6_code 11 = .ok (.astore_n 3, 1) := by decide +kernel
theorem d_Bd_delete_12 : decode prog_1_method_6_code 12 = .ok (.aload_n 0, 1) := by decide +kernel
theorem d_Bd_delete_13 : decode prog_1_method_6_code 13 = .ok (.invokevirtual 91, 3) := by decide +kernel
theorem d_Bd_delete_16 : decode prog_1_method_6_code 16 = .ok (.aload_n 0, 1) := by decide +kernel
theorem d_Bd_delete_17 : decode prog_1_method_6_code 17 = .ok (.new 94, 3) := by decide +kernel
theorem d_Bd_delete_20 : decode prog_1_method_6_code 20 = .ok (.dup, 1) := by decide +kernel
theorem d_Bd_delete_21 : decode prog_1_method_6_code 21 = .ok (.aload_n 3, 1) := by decide +kernel
theorem d_Bd_delete_22 : decode prog_1_method_6_code 22 = .ok (.getfield 112, 3) := by decide +kernel
theorem d_Bd_delete_25 : decode prog_1_method_6_code 25 = .ok (.aconst_null, 1) := by decide +kernel
theorem d_Bd_delete_26 : decode prog_1_method_6_code 26 = .ok (.invokespecial 101, 3) := by decide +kernel
theorem d_Bd_delete_29 : decode prog_1_method_6_code 29 = .ok (.invokevirtual 104, 3) := by decide +kernel
theorem d_Bd_delete_32 : decode prog_1_method_6_code 32 = .ok (.return_, 1) := by decide +kernel
theorem d_Bd_breakOff_0 : decode prog_1_method_8_code 0 = .ok (.iload_n 1, 1) := by decide +kernel
theorem d_Bd_breakOff_1 : decode prog_1_method_8_code 1 = .ok (.ifCond .ge 13, 3) := by decide +kernel
theorem d_Bd_breakOff_4 : decode prog_1_method_8_code 4 = .ok (.new 56, 3) := by decide +kernel
theorem d_Bd_breakOff_7 : decode prog_1_method_8_code 7 = .ok (.dup, 1) := by decide +kernel
theorem d_Bd_breakOff_8 : decode prog_1_method_8_code 8 = .ok (.ldc 127, 2) := by decide +kernel
theorem d_Bd_breakOff_10 : decode prog_1_method_8_code 10 = .ok (.invokespecial 60, 3) := by decide +kernel
theorem d_Bd_breakOff_13 : decode prog_1_method_8_code 13 = .ok (.athrow, 1) := by decide +kernel
theorem d_Bd_breakOff_14 : decode prog_1_method_8_code 14 = .ok (.iload_n 1, 1) := by decide +kernel
theorem d_Bd_breakOff_15 : decode prog_1_method_8_code 15 = .ok (.aload_n 0, 1) := by decide +kernel
theorem d_Bd_breakOff_16 : decode prog_1_method_8_code 16 = .ok (.getfield 32, 3) := by decide +kernel
theorem d_Bd_breakOff_19 : decode prog_1_method_8_code 19 = .ok (.getfield 119, 3) := by decide +kernel
theorem d_Bd_breakOff_22 : decode prog_1_method_8_code 22 = .ok (.invokestatic 129, 3) := by decide +kernel
theorem d_Bd_breakOff_25 : decode prog_1_method_8_code 25 = .ok (.istore_n 2, 1) := by decide +kernel
theorem d_Bd_breakOff_26 : decode prog_1_method_8_code 26 = .ok (.aload_n 0, 1) := by decide +kernel
theorem d_Bd_breakOff_27 : decode prog_1_method_8_code 27 = .ok (.getfield 32, 3) := by decide +kernel
theorem d_Bd_breakOff_30 : decode prog_1_method_8_code 30 = .ok (.iload_n 2, 1) := by decide +kernel
theorem d_Bd_breakOff_31 : decode prog_1_method_8_code 31 = .ok (.aload_n 0, 1) := by decide +kernel
theorem d_Bd_breakOff_32 : decode prog_1_method_8_code 32 = .ok (.getfield 23, 3) := by decide +kernel
theorem d_Bd_breakOff_35 : decode prog_1_method_8_code 35 = .ok (.invokevirtual 135, 3) := by decide +kernel
theorem d_Bd_breakOff_38 : decode prog_1_method_8_code 38 = .ok (.aload_n 0, 1) := by decide +kernel
theorem d_Bd_breakOff_39 : decode prog_1_method_8_code 39 = .ok (.getfield 19, 3) := by decide +kernel
theorem d_Bd_breakOff_42 : decode prog_1_method_8_code 42 = .ok (.aload_n 0, 1) := by decide +kernel
theorem d_Bd_breakOff_43 : decode prog_1_method_8_code 43 = .ok (.getfield 23, 3) := by decide +kernel
theorem d_Bd_breakOff_46 : decode prog_1_method_8_code 46 = .ok (.invokevirtual 120, 3) := by decide +kernel
theorem d_Bd_breakOff_49 : decode prog_1_method_8_code 49 = .ok (.aload_n 0, 1) := by decide +kernel
theorem d_Bd_breakOff_50 : decode prog_1_method_8_code 50 = .ok (.getfield 32, 3) := by decide +kernel
theorem d_Bd_breakOff_53 : decode prog_1_method_8_code 53 = .ok (.invokevirtual 124, 3) := by decide +kernel
theorem d_Bd_breakOff_56 : decode prog_1_method_8_code 56 = .ok (.iload_n 2, 1) := by decide +kernel
theorem d_Bd_breakOff_57 : decode prog_1_method_8_code 57 = .ok (.ireturn, 1) := by decide +kernel
theorem d_Jo_replayFirst_0 : decode prog_4_method_4_code 0 = .ok (.iload_n 1, 1) := by decide +kernel
theorem d_Jo_replayFirst_1 : decode prog_4_method_4_code 1 = .ok (.aload_n 0, 1) := by decide +kernel
theorem d_Jo_replayFirst_2 : decode prog_4_method_4_code 2 = .ok (.getfield 17, 3) := by decide +kernel
theorem d_Jo_replayFirst_5 : decode prog_4_method_4_code 5 = .ok (.invokestatic 21, 3) := by decide +kernel
theorem d_Jo_replayFirst_8 : decode prog_4_method_4_code 8 = .ok (.istore_n 3, 1) := by decide +kernel
theorem d_Jo_replayFirst_9 : decode prog_4_method_4_code 9 = .ok (.iconst 0, 1) := by decide +kernel
theorem d_Jo_replayFirst_10 : decode prog_4_method_4_code 10 = .ok (.istore 4, 2) := by decide +kernel
theorem d_Jo_replayFirst_12 : decode prog_4_method_4_code 12 = .ok (.iload 4, 2) := by decide +kernel
theorem d_Jo_replayFirst_14 : decode prog_4_method_4_code 14 = .ok (.iload_n 3, 1) := by decide +kernel
theorem d_Jo_replayFirst_15 : decode prog_4_method_4_code 15 = .ok (.if_icmp .ge 20, 3) := by decide +kernel
theorem d_Jo_replayFirst_18 : decode prog_4_method_4_code 18 = .ok (.aload_n 2, 1) := by decide +kernel
theorem d_Jo_replayFirst_19 : decode prog_4_method_4_code 19 = .ok (.aload_n 0, 1) := by decide +kernel
theorem d_Jo_replayFirst_20 : decode prog_4_method_4_code 20 = .ok (.getfield 11, 3) := by decide +kernel
theorem d_Jo_replayFirst_23 : decode prog_4_method_4_code 23 = .ok (.iload 4, 2) := by decide +kernel
theorem d_Jo_replayFirst_25 : decode prog_4_method_4_code 25 = .ok (.aaload, 1) := by decide +kernel
theorem d_Jo_replayFirst_26 : decode prog_4_method_4_code 26 = .ok (.invokevirtual 27, 3) := by decide +kernel
theorem d_Jo_replayFirst_29 : decode prog_4_method_4_code 29 = .ok (.iinc 4 1, 3) := by decide +kernel
theorem d_Jo_replayFirst_32 : decode prog_4_method_4_code 32 = .ok (.goto (-20), 3) := by decide +kernel
theorem d_Jo_replayFirst_35 : decode prog_4_method_4_code 35 = .ok (.return_, 1) := by decide +kernel
end
section
theorem d_Mo_init_0 : decode prog_10_method_1_code 0 = .ok (.aload_n 0, 1) := by decide +kernel
theorem d_Mo_init_1 : decode prog_10_method_1_code 1 = .ok (.invokespecial 1, 3) := by decide +kernel
theorem d_Mo_init_4 : decode prog_10_method_1_code 4 = .ok (.aload_n 0, 1) := by decide +kernel
theorem d_Mo_init_5 : decode prog_10_method_1_code 5 = .ok (.sipush 400, 3) := by decide +kernel
theorem d_Mo_init_8 : decode prog_10_method_1_code 8 = .ok (.newarray .byte, 2) := by decide +kernel
theorem d_Mo_init_10 : decode prog_10_method_1_code 10 = .ok (.putfield 7, 3) := by decide +kernel
theorem d_Mo_init_13 : decode prog_10_method_1_code 13 = .ok (.aload_n 0, 1) := by decide +kernel
theorem d_Mo_init_14 : decode prog_10_method_1_code 14 = .ok (.bipush 100, 2) := by decide +kernel
theorem d_Mo_init_16 : decode prog_10_method_1_code 16 = .ok (.newarray .byte, 2) := by decide +kernel
theorem d_Mo_init_18 : decode prog_10_method_1_code 18 = .ok (.putfield 13, 3) := by decide +kernel
theorem d_Mo_init_21 : decode prog_10_method_1_code 21 = .ok (.aload_n 0, 1) := by decide +kernel
theorem d_Mo_init_22 : decode prog_10_method_1_code 22 = .ok (.sipush 320, 3) := by decide +kernel
theorem d_Mo_init_25 : decode prog_10_method_1_code 25 = .ok (.newarray .int, 2) := by decide +kernel
theorem d_Mo_init_27 : decode prog_10_method_1_code 27 = .ok (.putfield 16, 3) := by decide +kernel
theorem d_Mo_init_30 : decode prog_10_method_1_code 30 = .ok (.aload_n 0, 1) := by decide +kernel
theorem d_Mo_init_31 : decode prog_10_method_1_code 31 = .ok (.sipush 320, 3) := by decide +kernel
theorem d_Mo_init_34 : decode prog_10_method_1_code 34 = .ok (.newarray .int, 2) := by decide +kernel
theorem d_Mo_init_36 : decode prog_10_method_1_code 36 = .ok (.putfield 20, 3) := by decide +kernel
theorem d_Mo_init_39 : decode prog_10_method_1_code 39 = .ok (.aload_n 0, 1) := by decide +kernel
theorem d_Mo_init_40 : decode prog_10_method_1_code 40 = .ok (.sipush 320, 3) := by decide +kernel
theorem d_Mo_init_43 : decode prog_10_method_1_code 43 = .ok (.newarray .int, 2) := by decide +kernel
theorem d_Mo_init_45 : decode prog_10_method_1_code 45 = .ok (.putfield 23, 3) := by decide +kernel
theorem d_Mo_init_48 : decode prog_10_method_1_code 48 = .ok (.aload_n 0, 1) := by decide +kernel
theorem d_Mo_init_49 : decode prog_10_method_1_code 49 = .ok (.sipush 320, 3) := by decide +kernel
theorem d_Mo_init_52 : decode prog_10_method_1_code 52 = .ok (.newarray .int, 2) := by decide +kernel
theorem d_Mo_init_54 : decode prog_10_method_1_code 54 = .ok (.putfield 26, 3) := by decide +kernel
theorem d_Mo_init_57 : decode prog_10_method_1_code 57 = .ok (.aload_n 0, 1) := by decide +kernel
theorem d_Mo_init_58 : decode prog_10_method_1_code 58 = .ok (.sipush 32000, 3) := by decide +kernel
theorem d_Mo_init_61 : decode prog_10_method_1_code 61 = .ok (.newarray .byte, 2) := by decide +kernel
theorem d_Mo_init_63 : decode prog_10_method_1_code 63 = .ok (.putfield 29, 3) := by decide +kernel
theorem d_Mo_init_66 : decode prog_10_method_1_code 66 = .ok (.aload_n 0, 1) := by decide +kernel
theorem d_Mo_init_67 : decode prog_10_method_1_code 67 = .ok (.ldc 32, 2) := by decide +kernel
theorem d_Mo_init_69 : decode prog_10_method_1_code 69 = .ok (.newarray .byte, 2) := by decide +kernel
theorem d_Mo_init_71 : decode prog_10_method_1_code 71 = .ok (.putfield 33, 3) := by decide +kernel
theorem d_Mo_init_74 : decode prog_10_method_1_code 74 = .ok (.aload_n 0, 1) := by decide +kernel
theorem d_Mo_init_75 : decode prog_10_method_1_code 75 = .ok (.sipush 200, 3) := by decide +kernel
theorem d_Mo_init_78 : decode prog_10_method_1_code 78 = .ok (.newarray .int, 2) := by decide +kernel
theorem d_Mo_init_80 : decode prog_10_method_1_code 80 = .ok (.putfield 36, 3) := by decide +kernel
theorem d_Mo_init_83 : decode prog_10_method_1_code 83 = .ok (.aload_n 0, 1) := by decide +kernel
theorem d_Mo_init_84 : decode prog_10_method_1_code 84 = .ok (.sipush 200, 3) := by decide +kernel
theorem d_Mo_init_87 : decode prog_10_method_1_code 87 = .ok (.newarray .int, 2) := by decide +kernel
theorem d_Mo_init_89 : decode prog_10_method_1_code 89 = .ok (.putfield 39, 3) := by decide +kernel
theorem d_Mo_init_92 : decode prog_10_method_1_code 92 = .ok (.aload_n 0, 1) := by decide +kernel
theorem d_Mo_init_93 : decode prog_10_method_1_code 93 = .ok (.sipush 200, 3) := by decide +kernel
theorem d_Mo_init_96 : decode prog_10_method_1_code 96 = .ok (.newarray .int, 2) := by decide +kernel
theorem d_Mo_init_98 : decode prog_10_method_1_code 98 = .ok (.putfield 42, 3) := by decide +kernel
theorem d_Mo_init_101 : decode prog_10_method_1_code 101 = .ok (.aload_n 0, 1) := by decide +kernel
theorem d_Mo_init_102 : decode prog_10_method_1_code 102 = .ok (.bipush 60, 2) := by decide +kernel
theorem d_Mo_init_104 : decode prog_10_method_1_code 104 = .ok (.newarray .int, 2) := by decide +kernel
theorem d_Mo_init_106 : decode prog_10_method_1_code 106 = .ok (.putfield 45, 3) := by decide +kernel
theorem d_Mo_init_109 : decode prog_10_method_1_code 109 = .ok (.aload_n 0, 1) := by decide +kernel
theorem d_Mo_init_110 : decode prog_10_method_1_code 110 = .ok (.bipush 60, 2) := by decide +kernel
theorem d_Mo_init_112 : decode prog_10_method_1_code 112 = .ok (.newarray .int, 2) := by decide +kernel
theorem d_Mo_init_114 : decode prog_10_method_1_code 114 = .ok (.putfield 48, 3) := by decide +kernel
theorem d_Mo_init_117 : decode prog_10_method_1_code 117 = .ok (.aload_n 0, 1) := by decide +kernel
theorem d_Mo_init_118 : decode prog_10_method_1_code 118 = .ok (.bipush 60, 2) := by decide +kernel
theorem d_Mo_init_120 : decode prog_10_method_1_code 120 = .ok (.newarray .int, 2) := by decide +kernel
theorem d_Mo_init_122 : decode prog_10_method_1_code 122 = .ok (.putfield 51, 3) := by decide +kernel
theorem d_Mo_init_125 : decode prog_10_method_1_code 125 = .ok (.aload_n 0, 1) := by decide +kernel
theorem d_Mo_init_126 : decode prog_10_method_1_code 126 = .ok (.sipush 6000, 3) := by decide +kernel
theorem d_Mo_init_129 : decode prog_10_method_1_code 129 = .ok (.newarray .byte, 2) := by decide +kernel
theorem d_Mo_init_131 : decode prog_10_method_1_code 131 = .ok (.putfield 54, 3) := by decide +kernel
theorem d_Mo_init_134 : decode prog_10_method_1_code 134 = .ok (.return_, 1) := by decide +kernel
theorem d_Mo_thrown_0 : decode prog_10_method_2_code 0 = .ok (.aload_n 0, 1) := by decide +kernel
theorem d_Mo_thrown_1 : decode prog_10_method_2_code 1 = .ok (.getfield 57, 3) := by decide +kernel
theorem d_Mo_thrown_4 : decode prog_10_method_2_code 4 = .ok (.ireturn, 1) := by decide +kernel
theorem d_Mo_put_0 : decode prog_10_method_3_code 0 = .ok (.aload_n 0, 1) := by decide +kernel
theorem d_Mo_put_1 : decode prog_10_method_3_code 1 = .ok (.iconst 0, 1) := by decide +kernel
theorem d_Mo_put_2 : decode prog_10_method_3_code 2 = .ok (.putfield 57, 3) := by decide +kernel
theorem d_Mo_put_5 : decode prog_10_method_3_code 5 = .ok (.iload_n 3, 1) := by decide +kernel
theorem d_Mo_put_6 : decode prog_10_method_3_code 6 = .ok (.ifCond .lt 21, 3) := by decide +kernel
theorem d_Mo_put_9 : decode prog_10_method_3_code 9 = .ok (.iload_n 3, 1) := by decide +kernel
theorem d_Mo_put_10 : decode prog_10_method_3_code 10 = .ok (.bipush 8, 2) := by decide +kernel
theorem d_Mo_put_12 : decode prog_10_method_3_code 12 = .ok (.if_icmp .gt 15, 3) := by decide +kernel
theorem d_Mo_put_15 : decode prog_10_method_3_code 15 = .ok (.aload_n 0, 1) := by decide +kernel
theorem d_Mo_put_16 : decode prog_10_method_3_code 16 = .ok (.getfield 61, 3) := by decide +kernel
theorem d_Mo_put_19 : decode prog_10_method_3_code 19 = .ok (.iload_n 3, 1) := by decide +kernel
theorem d_Mo_put_20 : decode prog_10_method_3_code 20 = .ok (.iadd, 1) := by decide +kernel
theorem d_Mo_put_21 : decode prog_10_method_3_code 21 = .ok (.sipush 400, 3) := by decide +kernel
theorem d_Mo_put_24 : decode prog_10_method_3_code 24 = .ok (.if_icmp .le 5, 3) := by decide +kernel
theorem d_Mo_put_27 : decode prog_10_method_3_code 27 = .ok (.iconst 0, 1) := by decide +kernel
theorem d_Mo_put_28 : decode prog_10_method_3_code 28 = .ok (.ireturn, 1) := by decide +kernel
theorem d_Mo_put_29 : decode prog_10_method_3_code 29 = .ok (.iload_n 3, 1) := by decide +kernel
theorem d_Mo_put_30 : decode prog_10_method_3_code 30 = .ok (.iconst 1, 1) := by decide +kernel
theorem d_Mo_put_31 : decode prog_10_method_3_code 31 = .ok (.isub, 1) := by decide +kernel
theorem d_Mo_put_32 : decode prog_10_method_3_code 32 = .ok (.istore 4, 2) := by decide +kernel
theorem d_Mo_put_34 : decode prog_10_method_3_code 34 = .ok (.iload 4, 2) := by decide +kernel
theorem d_Mo_put_36 : decode prog_10_method_3_code 36 = .ok (.ifCond .lt 37, 3) := by decide +kernel
theorem d_Mo_put_39 : decode prog_10_method_3_code 39 = .ok (.aload_n 0, 1) := by decide +kernel
theorem d_Mo_put_40 : decode prog_10_method_3_code 40 = .ok (.getfield 7, 3) := by decide +kernel
theorem d_Mo_put_43 : decode prog_10_method_3_code 43 = .ok (.aload_n 0, 1) := by decide +kernel
theorem d_Mo_put_44 : decode prog_10_method_3_code 44 = .ok (.getfield 61, 3) := by decide +kernel
theorem d_Mo_put_47 : decode prog_10_method_3_code 47 = .ok (.lload_n 1, 1) := by decide +kernel
theorem d_Mo_put_48 : decode prog_10_method_3_code 48 = .ok (.bipush 8, 2) := by decide +kernel
theorem d_Mo_put_50 : decode prog_10_method_3_code 50 = .ok (.iload 4, 2) := by decide +kernel
theorem d_Mo_put_52 : decode prog_10_method_3_code 52 = .ok (.imul, 1) := by decide +kernel
theorem d_Mo_put_53 : decode prog_10_method_3_code 53 = .ok (.lshr, 1) := by decide +kernel
theorem d_Mo_put_54 : decode prog_10_method_3_code 54 = .ok (.l2i, 1) := by decide +kernel
theorem d_Mo_put_55 : decode prog_10_method_3_code 55 = .ok (.i2b, 1) := by decide +kernel
theorem d_Mo_put_56 : decode prog_10_method_3_code 56 = .ok (.bastore, 1) := by decide +kernel
theorem d_Mo_put_57 : decode prog_10_method_3_code 57 = .ok (.aload_n 0, 1) := by decide +kernel
theorem d_Mo_put_58 : decode prog_10_method_3_code 58 = .ok (.dup, 1) := by decide +kernel
theorem d_Mo_put_59 : decode prog_10_method_3_code 59 = .ok (.getfield 61, 3) := by decide +kernel
theorem d_Mo_put_62 : decode prog_10_method_3_code 62 = .ok (.iconst 1, 1) := by decide +kernel
theorem d_Mo_put_63 : decode prog_10_method_3_code 63 = .ok (.iadd, 1) := by decide +kernel
theorem d_Mo_put_64 : decode prog_10_method_3_code 64 = .ok (.putfield 61, 3) := by decide +kernel
theorem d_Mo_put_67 : decode prog_10_method_3_code 67 = .ok (.iinc 4 (-1), 3) := by decide +kernel
theorem d_Mo_put_70 : decode prog_10_method_3_code 70 = .ok (.goto (-36), 3) := by decide +kernel
theorem d_Mo_put_73 : decode prog_10_method_3_code 73 = .ok (.iconst 1, 1) := by decide +kernel
theorem d_Mo_put_74 : decode prog_10_method_3_code 74 = .ok (.ireturn, 1) := by decide +kernel
theorem d_Mo_path_0 : decode prog_10_method_4_code 0 = .ok (.aload_n 0, 1) := by decide +kernel
theorem d_Mo_path_1 : decode prog_10_method_4_code 1 = .ok (.aload_n 0, 1) := by decide +kernel
theorem d_Mo_path_2 : decode prog_10_method_4_code 2 = .ok (.getfield 61, 3) := by decide +kernel
theorem d_Mo_path_5 : decode prog_10_method_4_code 5 = .ok (.bipush 100, 2) := by decide +kernel
theorem d_Mo_path_7 : decode prog_10_method_4_code 7 = .ok (.if_icmp .le 7, 3) := by decide +kernel
theorem d_Mo_path_10 : decode prog_10_method_4_code 10 = .ok (.iconst 1, 1) := by decide +kernel
theorem d_Mo_path_11 : decode prog_10_method_4_code 11 = .ok (.goto 4, 3) := by decide +kernel
theorem d_Mo_path_14 : decode prog_10_method_4_code 14 = .ok (.iconst 0, 1) := by decide +kernel
theorem d_Mo_path_15 : decode prog_10_method_4_code 15 = .ok (.putfield 57, 3) := by decide +kernel
theorem d_Mo_path_18 : decode prog_10_method_4_code 18 = .ok (.aload_n 0, 1) := by decide +kernel
theorem d_Mo_path_19 : decode prog_10_method_4_code 19 = .ok (.getfield 57, 3) := by decide +kernel
theorem d_Mo_path_22 : decode prog_10_method_4_code 22 = .ok (.ifCond .le 5, 3) := by decide +kernel
theorem d_Mo_path_25 : decode prog_10_method_4_code 25 = .ok (.iconst 0, 1) := by decide +kernel
theorem d_Mo_path_26 : decode prog_10_method_4_code 26 = .ok (.ireturn, 1) := by decide +kernel
theorem d_Mo_path_27 : decode prog_10_method_4_code 27 = .ok (.iconst 0, 1) := by decide +kernel
theorem d_Mo_path_28 : decode prog_10_method_4_code 28 = .ok (.istore_n 1, 1) := by decide +kernel
theorem d_Mo_path_29 : decode prog_10_method_4_code 29 = .ok (.iload_n 1, 1) := by decide +kernel
theorem d_Mo_path_30 : decode prog_10_method_4_code 30 = .ok (.aload_n 0, 1) := by decide +kernel
theorem d_Mo_path_31 : decode prog_10_method_4_code 31 = .ok (.getfield 61, 3) := by decide +kernel
theorem d_Mo_path_34 : decode prog_10_method_4_code 34 = .ok (.if_icmp .ge 21, 3) := by decide +kernel
theorem d_Mo_path_37 : decode prog_10_method_4_code 37 = .ok (.aload_n 0, 1) := by decide +kernel
theorem d_Mo_path_38 : decode prog_10_method_4_code 38 = .ok (.getfield 13, 3) := by decide +kernel
theorem d_Mo_path_41 : decode prog_10_method_4_code 41 = .ok (.iload_n 1, 1) := by decide +kernel
theorem d_Mo_path_42 : decode prog_10_method_4_code 42 = .ok (.aload_n 0, 1) := by decide +kernel
theorem d_Mo_path_43 : decode prog_10_method_4_code 43 = .ok (.getfield 7, 3) := by decide +kernel
theorem d_Mo_path_46 : decode prog_10_method_4_code 46 = .ok (.iload_n 1, 1) := by decide +kernel
theorem d_Mo_path_47 : decode prog_10_method_4_code 47 = .ok (.baload, 1) := by decide +kernel
theorem d_Mo_path_48 : decode prog_10_method_4_code 48 = .ok (.bastore, 1) := by decide +kernel
theorem d_Mo_path_49 : decode prog_10_method_4_code 49 = .ok (.iinc 1 1, 3) := by decide +kernel
theorem d_Mo_path_52 : decode prog_10_method_4_code 52 = .ok (.goto (-23), 3) := by decide +kernel
theorem d_Mo_path_55 : decode prog_10_method_4_code 55 = .ok (.aload_n 0, 1) := by decide +kernel
theorem d_Mo_path_56 : decode prog_10_method_4_code 56 = .ok (.aload_n 0, 1) := by decide +kernel
theorem d_Mo_path_57 : decode prog_10_method_4_code 57 = .ok (.getfield 61, 3) := by decide +kernel
theorem d_Mo_path_60 : decode prog_10_method_4_code 60 = .ok (.putfield 64, 3) := by decide +kernel
theorem d_Mo_path_63 : decode prog_10_method_4_code 63 = .ok (.aload_n 0, 1) := by decide +kernel
theorem d_Mo_path_64 : decode prog_10_method_4_code 64 = .ok (.iconst 0, 1) := by decide +kernel
theorem d_Mo_path_65 : decode prog_10_method_4_code 65 = .ok (.putfield 61, 3) := by decide +kernel
theorem d_Mo_path_68 : decode prog_10_method_4_code 68 = .ok (.aload_n 0, 1) := by decide +kernel
theorem d_Mo_path_69 : decode prog_10_method_4_code 69 = .ok (.getfield 64, 3) := by decide +kernel
theorem d_Mo_path_72 : decode prog_10_method_4_code 72 = .ok (.ireturn, 1) := by decide +kernel
theorem d_Mo_write_0 : decode prog_10_method_15_code 0 = .ok (.aload_n 0, 1) := by decide +kernel
theorem d_Mo_write_1 : decode prog_10_method_15_code 1 = .ok (.getfield 86, 3) := by decide +kernel
theorem d_Mo_write_4 : decode prog_10_method_15_code 4 = .ok (.sipush 200, 3) := by decide +kernel
theorem d_Mo_write_7 : decode prog_10_method_15_code 7 = .ok (.if_icmp .eq 22, 3) := by decide +kernel
theorem d_Mo_write_10 : decode prog_10_method_15_code 10 = .ok (.aload_n 0, 1) := by decide +kernel
theorem d_Mo_write_11 : decode prog_10_method_15_code 11 = .ok (.getfield 67, 3) := by decide +kernel
theorem d_Mo_write_14 : decode prog_10_method_15_code 14 = .ok (.bipush 60, 2) := by decide +kernel
theorem d_Mo_write_16 : decode prog_10_method_15_code 16 = .ok (.if_icmp .ne 17, 3) := by decide +kernel
theorem d_Mo_write_19 : decode prog_10_method_15_code 19 = .ok (.aload_n 0, 1) := by decide +kernel
theorem d_Mo_write_20 : decode prog_10_method_15_code 20 = .ok (.iload_n 1, 1) := by decide +kernel
theorem d_Mo_write_21 : decode prog_10_method_15_code 21 = .ok (.iload_n 2, 1) := by decide +kernel
theorem d_Mo_write_22 : decode prog_10_method_15_code 22 = .ok (.invokevirtual 95, 3) := by decide +kernel
theorem d_Mo_write_25 : decode prog_10_method_15_code 25 = .ok (.iconst (-1), 1) := by decide +kernel
theorem d_Mo_write_26 : decode prog_10_method_15_code 26 = .ok (.if_icmp .ne 7, 3) := by decide +kernel
theorem d_Mo_write_29 : decode prog_10_method_15_code 29 = .ok (.iconst 1, 1) := by decide +kernel
theorem d_Mo_write_30 : decode prog_10_method_15_code 30 = .ok (.goto 4, 3) := by decide +kernel
theorem d_Mo_write_33 : decode prog_10_method_15_code 33 = .ok (.iconst 0, 1) := by decide +kernel
theorem d_Mo_write_34 : decode prog_10_method_15_code 34 = .ok (.istore_n 3, 1) := by decide +kernel
theorem d_Mo_write_35 : decode prog_10_method_15_code 35 = .ok (.aload_n 0, 1) := by decide +kernel
theorem d_Mo_write_36 : decode prog_10_method_15_code 36 = .ok (.iload_n 1, 1) := by decide +kernel
theorem d_Mo_write_37 : decode prog_10_method_15_code 37 = .ok (.iload_n 2, 1) := by decide +kernel
theorem d_Mo_write_38 : decode prog_10_method_15_code 38 = .ok (.invokestatic 99, 3) := by decide +kernel
theorem d_Mo_write_41 : decode prog_10_method_15_code 41 = .ok (.ifCond .ne 7, 3) := by decide +kernel
theorem d_Mo_write_44 : decode prog_10_method_15_code 44 = .ok (.iconst 1, 1) := by decide +kernel
theorem d_Mo_write_45 : decode prog_10_method_15_code 45 = .ok (.goto 12, 3) := by decide +kernel
theorem d_Mo_write_48 : decode prog_10_method_15_code 48 = .ok (.iload_n 3, 1) := by decide +kernel
theorem d_Mo_write_49 : decode prog_10_method_15_code 49 = .ok (.ifCond .eq 7, 3) := by decide +kernel
theorem d_Mo_write_52 : decode prog_10_method_15_code 52 = .ok (.iconst 2, 1) := by decide +kernel
theorem d_Mo_write_53 : decode prog_10_method_15_code 53 = .ok (.goto 4, 3) := by decide +kernel
theorem d_Mo_write_56 : decode prog_10_method_15_code 56 = .ok (.iconst 0, 1) := by decide +kernel
theorem d_Mo_write_57 : decode prog_10_method_15_code 57 = .ok (.putfield 57, 3) := by decide +kernel
theorem d_Mo_write_60 : decode prog_10_method_15_code 60 = .ok (.aload_n 0, 1) := by decide +kernel
theorem d_Mo_write_61 : decode prog_10_method_15_code 61 = .ok (.getfield 57, 3) := by decide +kernel
theorem d_Mo_write_64 : decode prog_10_method_15_code 64 = .ok (.ifCond .le 4, 3) := by decide +kernel
theorem d_Mo_write_67 : decode prog_10_method_15_code 67 = .ok (.return_, 1) := by decide +kernel
theorem d_Mo_write_68 : decode prog_10_method_15_code 68 = .ok (.aload_n 0, 1) := by decide +kernel
theorem d_Mo_write_69 : decode prog_10_method_15_code 69 = .ok (.invokevirtual 102, 3) := by decide +kernel
theorem d_Mo_write_72 : decode prog_10_method_15_code 72 = .ok (.istore 4, 2) := by decide +kernel
theorem d_Mo_write_74 : decode prog_10_method_15_code 74 = .ok (.aload_n 0, 1) := by decide +kernel
theorem d_Mo_write_75 : decode prog_10_method_15_code 75 = .ok (.iload 4, 2) := by decide +kernel
theorem d_Mo_write_77 : decode prog_10_method_15_code 77 = .ok (.iload_n 1, 1) := by decide +kernel
theorem d_Mo_write_78 : decode prog_10_method_15_code 78 = .ok (.iload_n 2, 1) := by decide +kernel
theorem d_Mo_write_79 : decode prog_10_method_15_code 79 = .ok (.invokevirtual 106, 3) := by decide +kernel
theorem d_Mo_write_82 : decode prog_10_method_15_code 82 = .ok (.aload_n 0, 1) := by decide +kernel
theorem d_Mo_write_83 : decode prog_10_method_15_code 83 = .ok (.getfield 26, 3) := by decide +kernel
theorem d_Mo_write_86 : decode prog_10_method_15_code 86 = .ok (.iload 4, 2) := by decide +kernel
theorem d_Mo_write_88 : decode prog_10_method_15_code 88 = .ok (.aload_n 0, 1) := by decide +kernel
theorem d_Mo_write_89 : decode prog_10_method_15_code 89 = .ok (.getfield 61, 3) := by decide +kernel
theorem d_Mo_write_92 : decode prog_10_method_15_code 92 = .ok (.iastore, 1) := by decide +kernel
theorem d_Mo_write_93 : decode prog_10_method_15_code 93 = .ok (.iconst 0, 1) := by decide +kernel
theorem d_Mo_write_94 : decode prog_10_method_15_code 94 = .ok (.istore 5, 2) := by decide +kernel
theorem d_Mo_write_96 : decode prog_10_method_15_code 96 = .ok (.iload 5, 2) := by decide +kernel
theorem d_Mo_write_98 : decode prog_10_method_15_code 98 = .ok (.aload_n 0, 1) := by decide +kernel
theorem d_Mo_write_99 : decode prog_10_method_15_code 99 = .ok (.getfield 61, 3) := by decide +kernel
theorem d_Mo_write_102 : decode prog_10_method_15_code 102 = .ok (.if_icmp .ge 30, 3) := by decide +kernel
theorem d_Mo_write_105 : decode prog_10_method_15_code 105 = .ok (.aload_n 0, 1) := by decide +kernel
theorem d_Mo_write_106 : decode prog_10_method_15_code 106 = .ok (.getfield 33, 3) := by decide +kernel
theorem d_Mo_write_109 : decode prog_10_method_15_code 109 = .ok (.sipush 400, 3) := by decide +kernel
theorem d_Mo_write_112 : decode prog_10_method_15_code 112 = .ok (.iload 4, 2) := by decide +kernel
theorem d_Mo_write_114 : decode prog_10_method_15_code 114 = .ok (.imul, 1) := by decide +kernel
theorem d_Mo_write_115 : decode prog_10_method_15_code 115 = .ok (.iload 5, 2) := by decide +kernel
theorem d_Mo_write_117 : decode prog_10_method_15_code 117 = .ok (.iadd, 1) := by decide +kernel
theorem d_Mo_write_118 : decode prog_10_method_15_code 118 = .ok (.aload_n 0, 1) := by decide +kernel
theorem d_Mo_write_119 : decode prog_10_method_15_code 119 = .ok (.getfield 7, 3) := by decide +kernel
theorem d_Mo_write_122 : decode prog_10_method_15_code 122 = .ok (.iload 5, 2) := by decide +kernel
theorem d_Mo_write_124 : decode prog_10_method_15_code 124 = .ok (.baload, 1) := by decide +kernel
theorem d_Mo_write_125 : decode prog_10_method_15_code 125 = .ok (.bastore, 1) := by decide +kernel
theorem d_Mo_write_126 : decode prog_10_method_15_code 126 = .ok (.iinc 5 1, 3) := by decide +kernel
theorem d_Mo_write_129 : decode prog_10_method_15_code 129 = .ok (.goto (-33), 3) := by decide +kernel
theorem d_Mo_write_132 : decode prog_10_method_15_code 132 = .ok (.aload_n 0, 1) := by decide +kernel
theorem d_Mo_write_133 : decode prog_10_method_15_code 133 = .ok (.iconst 0, 1) := by decide +kernel
theorem d_Mo_write_134 : decode prog_10_method_15_code 134 = .ok (.putfield 61, 3) := by decide +kernel
theorem d_Mo_write_137 : decode prog_10_method_15_code 137 = .ok (.aload_n 0, 1) := by decide +kernel
theorem d_Mo_write_138 : decode prog_10_method_15_code 138 = .ok (.iconst 0, 1) := by decide +kernel
theorem d_Mo_write_139 : decode prog_10_method_15_code 139 = .ok (.iload 4, 2) := by decide +kernel
theorem d_Mo_write_141 : decode prog_10_method_15_code 141 = .ok (.iconst 0, 1) := by decide +kernel
theorem d_Mo_write_142 : decode prog_10_method_15_code 142 = .ok (.iconst 0, 1) := by decide +kernel
theorem d_Mo_write_143 : decode prog_10_method_15_code 143 = .ok (.invokevirtual 110, 3) := by decide +kernel
theorem d_Mo_write_146 : decode prog_10_method_15_code 146 = .ok (.return_, 1) := by decide +kernel
theorem d_Mo_findHere_0 : decode prog_10_method_14_code 0 = .ok (.iconst 0, 1) := by decide +kernel
theorem d_Mo_findHere_1 : decode prog_10_method_14_code 1 = .ok (.istore_n 3, 1) := by decide +kernel
theorem d_Mo_findHere_2 : decode prog_10_method_14_code 2 = .ok (.iload_n 3, 1) := by decide +kernel
theorem d_Mo_findHere_3 : decode prog_10_method_14_code 3 = .ok (.aload_n 0, 1) := by decide +kernel
theorem d_Mo_findHere_4 : decode prog_10_method_14_code 4 = .ok (.getfield 67, 3) := by decide +kernel
theorem d_Mo_findHere_7 : decode prog_10_method_14_code 7 = .ok (.if_icmp .ge 108, 3) := by decide +kernel
theorem d_Mo_findHere_10 : decode prog_10_method_14_code 10 = .ok (.aload_n 0, 1) := by decide +kernel
theorem d_Mo_findHere_11 : decode prog_10_method_14_code 11 = .ok (.getfield 16, 3) := by decide +kernel
theorem d_Mo_findHere_14 : decode prog_10_method_14_code 14 = .ok (.iload_n 3, 1) := by decide +kernel
theorem d_Mo_findHere_15 : decode prog_10_method_14_code 15 = .ok (.iaload, 1) := by decide +kernel
theorem d_Mo_findHere_16 : decode prog_10_method_14_code 16 = .ok (.iload_n 1, 1) := by decide +kernel
theorem d_Mo_findHere_17 : decode prog_10_method_14_code 17 = .ok (.if_icmp .ne 30, 3) := by decide +kernel
theorem d_Mo_findHere_20 : decode prog_10_method_14_code 20 = .ok (.aload_n 0, 1) := by decide +kernel
theorem d_Mo_findHere_21 : decode prog_10_method_14_code 21 = .ok (.getfield 20, 3) := by decide +kernel
theorem d_Mo_findHere_24 : decode prog_10_method_14_code 24 = .ok (.iload_n 3, 1) := by decide +kernel
theorem d_Mo_findHere_25 : decode prog_10_method_14_code 25 = .ok (.iaload, 1) := by decide +kernel
theorem d_Mo_findHere_26 : decode prog_10_method_14_code 26 = .ok (.iload_n 2, 1) := by decide +kernel
theorem d_Mo_findHere_27 : decode prog_10_method_14_code 27 = .ok (.if_icmp .ne 20, 3) := by decide +kernel
theorem d_Mo_findHere_30 : decode prog_10_method_14_code 30 = .ok (.aload_n 0, 1) := by decide +kernel
theorem d_Mo_findHere_31 : decode prog_10_method_14_code 31 = .ok (.getfield 23, 3) := by decide +kernel
theorem d_Mo_findHere_34 : decode prog_10_method_14_code 34 = .ok (.iload_n 3, 1) := by decide +kernel
theorem d_Mo_findHere_35 : decode prog_10_method_14_code 35 = .ok (.iaload, 1) := by decide +kernel
theorem d_Mo_findHere_36 : decode prog_10_method_14_code 36 = .ok (.aload_n 0, 1) := by decide +kernel
theorem d_Mo_findHere_37 : decode prog_10_method_14_code 37 = .ok (.getfield 64, 3) := by decide +kernel
theorem d_Mo_findHere_40 : decode prog_10_method_14_code 40 = .ok (.if_icmp .ne 7, 3) := by decide +kernel
theorem d_Mo_findHere_43 : decode prog_10_method_14_code 43 = .ok (.iconst 1, 1) := by decide +kernel
theorem d_Mo_findHere_44 : decode prog_10_method_14_code 44 = .ok (.goto 4, 3) := by decide +kernel
theorem d_Mo_findHere_47 : decode prog_10_method_14_code 47 = .ok (.iconst 0, 1) := by decide +kernel
theorem d_Mo_findHere_48 : decode prog_10_method_14_code 48 = .ok (.istore 4, 2) := by decide +kernel
theorem d_Mo_findHere_50 : decode prog_10_method_14_code 50 = .ok (.iconst 0, 1) := by decide +kernel
theorem d_Mo_findHere_51 : decode prog_10_method_14_code 51 = .ok (.istore 5, 2) := by decide +kernel
theorem d_Mo_findHere_53 : decode prog_10_method_14_code 53 = .ok (.iload 5, 2) := by decide +kernel
theorem d_Mo_findHere_55 : decode prog_10_method_14_code 55 = .ok (.aload_n 0, 1) := by decide +kernel
theorem d_Mo_findHere_56 : decode prog_10_method_14_code 56 = .ok (.getfield 64, 3) := by decide +kernel
theorem d_Mo_findHere_59 : decode prog_10_method_14_code 59 = .ok (.if_icmp .ge 43, 3) := by decide +kernel
theorem d_Mo_findHere_62 : decode prog_10_method_14_code 62 = .ok (.iload 4, 2) := by decide +kernel
theorem d_Mo_findHere_64 : decode prog_10_method_14_code 64 = .ok (.ifCond .eq 38, 3) := by decide +kernel
theorem d_Mo_findHere_67 : decode prog_10_method_14_code 67 = .ok (.aload_n 0, 1) := by decide +kernel
theorem d_Mo_findHere_68 : decode prog_10_method_14_code 68 = .ok (.getfield 29, 3) := by decide +kernel
theorem d_Mo_findHere_71 : decode prog_10_method_14_code 71 = .ok (.bipush 100, 2) := by decide +kernel
theorem d_Mo_findHere_73 : decode prog_10_method_14_code 73 = .ok (.iload_n 3, 1) := by decide +kernel
theorem d_Mo_findHere_74 : decode prog_10_method_14_code 74 = .ok (.imul, 1) := by decide +kernel
theorem d_Mo_findHere_75 : decode prog_10_method_14_code 75 = .ok (.iload 5, 2) := by decide +kernel
theorem d_Mo_findHere_77 : decode prog_10_method_14_code 77 = .ok (.iadd, 1) := by decide +kernel
theorem d_Mo_findHere_78 : decode prog_10_method_14_code 78 = .ok (.baload, 1) := by decide +kernel
theorem d_Mo_findHere_79 : decode prog_10_method_14_code 79 = .ok (.aload_n 0, 1) := by decide +kernel
theorem d_Mo_findHere_80 : decode prog_10_method_14_code 80 = .ok (.getfield 13, 3) := by decide +kernel
theorem d_Mo_findHere_83 : decode prog_10_method_14_code 83 = .ok (.iload 5, 2) := by decide +kernel
theorem d_Mo_findHere_85 : decode prog_10_method_14_code 85 = .ok (.baload, 1) := by decide +kernel
theorem d_Mo_findHere_86 : decode prog_10_method_14_code 86 = .ok (.if_icmp .ne 7, 3) := by decide +kernel
theorem d_Mo_findHere_89 : decode prog_10_method_14_code 89 = .ok (.iconst 1, 1) := by decide +kernel
theorem d_Mo_findHere_90 : decode prog_10_method_14_code 90 = .ok (.goto 4, 3) := by decide +kernel
theorem d_Mo_findHere_93 : decode prog_10_method_14_code 93 = .ok (.iconst 0, 1) := by decide +kernel
theorem d_Mo_findHere_94 : decode prog_10_method_14_code 94 = .ok (.istore 4, 2) := by decide +kernel
theorem d_Mo_findHere_96 : decode prog_10_method_14_code 96 = .ok (.iinc 5 1, 3) := by decide +kernel
theorem d_Mo_findHere_99 : decode prog_10_method_14_code 99 = .ok (.goto (-46), 3) := by decide +kernel
theorem d_Mo_findHere_102 : decode prog_10_method_14_code 102 = .ok (.iload 4, 2) := by decide +kernel
theorem d_Mo_findHere_104 : decode prog_10_method_14_code 104 = .ok (.ifCond .eq 5, 3) := by decide +kernel
theorem d_Mo_findHere_107 : decode prog_10_method_14_code 107 = .ok (.iload_n 3, 1) := by decide +kernel
theorem d_Mo_findHere_108 : decode prog_10_method_14_code 108 = .ok (.ireturn, 1) := by decide +kernel
theorem d_Mo_findHere_109 : decode prog_10_method_14_code 109 = .ok (.iinc 3 1, 3) := by decide +kernel
theorem d_Mo_findHere_112 : decode prog_10_method_14_code 112 = .ok (.goto (-110), 3) := by decide +kernel
theorem d_Mo_findHere_115 : decode prog_10_method_14_code 115 = .ok (.iconst (-1), 1) := by decide +kernel
theorem d_Mo_findHere_116 : decode prog_10_method_14_code 116 = .ok (.ireturn, 1) := by decide +kernel
theorem d_Mo_isName_0 : decode prog_10_method_12_code 0 = .ok (.iload_n 0, 1) := by decide +kernel
theorem d_Mo_isName_1 : decode prog_10_method_12_code 1 = .ok (.ifCond .lt 17, 3) := by decide +kernel
theorem d_Mo_isName_4 : decode prog_10_method_12_code 4 = .ok (.iload_n 0, 1) := by decide +kernel
theorem d_Mo_isName_5 : decode prog_10_method_12_code 5 = .ok (.bipush 7, 2) := by decide +kernel
theorem d_Mo_isName_7 : decode prog_10_method_12_code 7 = .ok (.if_icmp .ge 11, 3) := by decide +kernel
theorem d_Mo_isName_10 : decode prog_10_method_12_code 10 = .ok (.iload_n 1, 1) := by decide +kernel
theorem d_Mo_isName_11 : decode prog_10_method_12_code 11 = .ok (.ifCond .lt 7, 3) := by decide +kernel
theorem d_Mo_isName_14 : decode prog_10_method_12_code 14 = .ok (.iconst 1, 1) := by decide +kernel
theorem d_Mo_isName_15 : decode prog_10_method_12_code 15 = .ok (.goto 4, 3) := by decide +kernel
theorem d_Mo_isName_18 : decode prog_10_method_12_code 18 = .ok (.iconst 0, 1) := by decide +kernel
theorem d_Mo_isName_19 : decode prog_10_method_12_code 19 = .ok (.ireturn, 1) := by decide +kernel
theorem d_Mo_entry_0 : decode prog_10_method_13_code 0 = .ok (.bipush 120, 2) := by decide +kernel
theorem d_Mo_entry_2 : decode prog_10_method_13_code 2 = .ok (.aload_n 0, 1) := by decide +kernel
theorem d_Mo_entry_3 : decode prog_10_method_13_code 3 = .ok (.getfield 86, 3) := by decide +kernel
theorem d_Mo_entry_6 : decode prog_10_method_13_code 6 = .ok (.sipush 200, 3) := by decide +kernel
theorem d_Mo_entry_9 : decode prog_10_method_13_code 9 = .ok (.if_icmp .ge 10, 3) := by decide +kernel
theorem d_Mo_entry_12 : decode prog_10_method_13_code 12 = .ok (.aload_n 0, 1) := by decide +kernel
theorem d_Mo_entry_13 : decode prog_10_method_13_code 13 = .ok (.getfield 86, 3) := by decide +kernel
theorem d_Mo_entry_16 : decode prog_10_method_13_code 16 = .ok (.goto 6, 3) := by decide +kernel
theorem d_Mo_entry_19 : decode prog_10_method_13_code 19 = .ok (.sipush 199, 3) := by decide +kernel
theorem d_Mo_entry_22 : decode prog_10_method_13_code 22 = .ok (.iadd, 1) := by decide +kernel
theorem d_Mo_entry_23 : decode prog_10_method_13_code 23 = .ok (.ireturn, 1) := by decide +kernel
theorem d_Mo_name_0 : decode prog_10_method_6_code 0 = .ok (.aload_n 0, 1) := by decide +kernel
theorem d_Mo_name_1 : decode prog_10_method_6_code 1 = .ok (.getfield 16, 3) := by decide +kernel
theorem d_Mo_name_4 : decode prog_10_method_6_code 4 = .ok (.iload_n 1, 1) := by decide +kernel
theorem d_Mo_name_5 : decode prog_10_method_6_code 5 = .ok (.iload_n 2, 1) := by decide +kernel
theorem d_Mo_name_6 : decode prog_10_method_6_code 6 = .ok (.iastore, 1) := by decide +kernel
theorem d_Mo_name_7 : decode prog_10_method_6_code 7 = .ok (.aload_n 0, 1) := by decide +kernel
theorem d_Mo_name_8 : decode prog_10_method_6_code 8 = .ok (.getfield 20, 3) := by decide +kernel
theorem d_Mo_name_11 : decode prog_10_method_6_code 11 = .ok (.iload_n 1, 1) := by decide +kernel
theorem d_Mo_name_12 : decode prog_10_method_6_code 12 = .ok (.iload_n 3, 1) := by decide +kernel
theorem d_Mo_name_13 : decode prog_10_method_6_code 13 = .ok (.iastore, 1) := by decide +kernel
theorem d_Mo_name_14 : decode prog_10_method_6_code 14 = .ok (.aload_n 0, 1) := by decide +kernel
theorem d_Mo_name_15 : decode prog_10_method_6_code 15 = .ok (.getfield 23, 3) := by decide +kernel
theorem d_Mo_name_18 : decode prog_10_method_6_code 18 = .ok (.iload_n 1, 1) := by decide +kernel
theorem d_Mo_name_19 : decode prog_10_method_6_code 19 = .ok (.aload_n 0, 1) := by decide +kernel
theorem d_Mo_name_20 : decode prog_10_method_6_code 20 = .ok (.getfield 64, 3) := by decide +kernel
theorem d_Mo_name_23 : decode prog_10_method_6_code 23 = .ok (.iastore, 1) := by decide +kernel
theorem d_Mo_name_24 : decode prog_10_method_6_code 24 = .ok (.iconst 0, 1) := by decide +kernel
theorem d_Mo_name_25 : decode prog_10_method_6_code 25 = .ok (.istore 4, 2) := by decide +kernel
theorem d_Mo_name_27 : decode prog_10_method_6_code 27 = .ok (.iload 4, 2) := by decide +kernel
theorem d_Mo_name_29 : decode prog_10_method_6_code 29 = .ok (.aload_n 0, 1) := by decide +kernel
theorem d_Mo_name_30 : decode prog_10_method_6_code 30 = .ok (.getfield 64, 3) := by decide +kernel
theorem d_Mo_name_33 : decode prog_10_method_6_code 33 = .ok (.if_icmp .ge 28, 3) := by decide +kernel
theorem d_Mo_name_36 : decode prog_10_method_6_code 36 = .ok (.aload_n 0, 1) := by decide +kernel
theorem d_Mo_name_37 : decode prog_10_method_6_code 37 = .ok (.getfield 29, 3) := by decide +kernel
theorem d_Mo_name_40 : decode prog_10_method_6_code 40 = .ok (.bipush 100, 2) := by decide +kernel
theorem d_Mo_name_42 : decode prog_10_method_6_code 42 = .ok (.iload_n 1, 1) := by decide +kernel
theorem d_Mo_name_43 : decode prog_10_method_6_code 43 = .ok (.imul, 1) := by decide +kernel
theorem d_Mo_name_44 : decode prog_10_method_6_code 44 = .ok (.iload 4, 2) := by decide +kernel
theorem d_Mo_name_46 : decode prog_10_method_6_code 46 = .ok (.iadd, 1) := by decide +kernel
theorem d_Mo_name_47 : decode prog_10_method_6_code 47 = .ok (.aload_n 0, 1) := by decide +kernel
theorem d_Mo_name_48 : decode prog_10_method_6_code 48 = .ok (.getfield 13, 3) := by decide +kernel
theorem d_Mo_name_51 : decode prog_10_method_6_code 51 = .ok (.iload 4, 2) := by decide +kernel
theorem d_Mo_name_53 : decode prog_10_method_6_code 53 = .ok (.baload, 1) := by decide +kernel
theorem d_Mo_name_54 : decode prog_10_method_6_code 54 = .ok (.bastore, 1) := by decide +kernel
theorem d_Mo_name_55 : decode prog_10_method_6_code 55 = .ok (.iinc 4 1, 3) := by decide +kernel
theorem d_Mo_name_58 : decode prog_10_method_6_code 58 = .ok (.goto (-31), 3) := by decide +kernel
theorem d_Mo_name_61 : decode prog_10_method_6_code 61 = .ok (.aload_n 0, 1) := by decide +kernel
theorem d_Mo_name_62 : decode prog_10_method_6_code 62 = .ok (.getfield 26, 3) := by decide +kernel
theorem d_Mo_name_65 : decode prog_10_method_6_code 65 = .ok (.iload_n 1, 1) := by decide +kernel
theorem d_Mo_name_66 : decode prog_10_method_6_code 66 = .ok (.iconst 0, 1) := by decide +kernel
theorem d_Mo_name_67 : decode prog_10_method_6_code 67 = .ok (.iastore, 1) := by decide +kernel
theorem d_Mo_name_68 : decode prog_10_method_6_code 68 = .ok (.return_, 1) := by decide +kernel
theorem d_Mo_add_0 : decode prog_10_method_11_code 0 = .ok (.aload_n 0, 1) := by decide +kernel
theorem d_Mo_add_1 : decode prog_10_method_11_code 1 = .ok (.getfield 36, 3) := by decide +kernel
theorem d_Mo_add_4 : decode prog_10_method_11_code 4 = .ok (.aload_n 0, 1) := by decide +kernel
theorem d_Mo_add_5 : decode prog_10_method_11_code 5 = .ok (.getfield 86, 3) := by decide +kernel
theorem d_Mo_add_8 : decode prog_10_method_11_code 8 = .ok (.iload_n 1, 1) := by decide +kernel
theorem d_Mo_add_9 : decode prog_10_method_11_code 9 = .ok (.iastore, 1) := by decide +kernel
theorem d_Mo_add_10 : decode prog_10_method_11_code 10 = .ok (.aload_n 0, 1) := by decide +kernel
theorem d_Mo_add_11 : decode prog_10_method_11_code 11 = .ok (.getfield 39, 3) := by decide +kernel
theorem d_Mo_add_14 : decode prog_10_method_11_code 14 = .ok (.aload_n 0, 1) := by decide +kernel
theorem d_Mo_add_15 : decode prog_10_method_11_code 15 = .ok (.getfield 86, 3) := by decide +kernel
theorem d_Mo_add_18 : decode prog_10_method_11_code 18 = .ok (.iload_n 3, 1) := by decide +kernel
theorem d_Mo_add_19 : decode prog_10_method_11_code 19 = .ok (.iastore, 1) := by decide +kernel
theorem d_Mo_add_20 : decode prog_10_method_11_code 20 = .ok (.aload_n 0, 1) := by decide +kernel
theorem d_Mo_add_21 : decode prog_10_method_11_code 21 = .ok (.getfield 42, 3) := by decide +kernel
theorem d_Mo_add_24 : decode prog_10_method_11_code 24 = .ok (.aload_n 0, 1) := by decide +kernel
theorem d_Mo_add_25 : decode prog_10_method_11_code 25 = .ok (.getfield 86, 3) := by decide +kernel
theorem d_Mo_add_28 : decode prog_10_method_11_code 28 = .ok (.iload 4, 2) := by decide +kernel
theorem d_Mo_add_30 : decode prog_10_method_11_code 30 = .ok (.iastore, 1) := by decide +kernel
theorem d_Mo_add_31 : decode prog_10_method_11_code 31 = .ok (.aload_n 0, 1) := by decide +kernel
theorem d_Mo_add_32 : decode prog_10_method_11_code 32 = .ok (.dup, 1) := by decide +kernel
theorem d_Mo_add_33 : decode prog_10_method_11_code 33 = .ok (.getfield 86, 3) := by decide +kernel
theorem d_Mo_add_36 : decode prog_10_method_11_code 36 = .ok (.iconst 1, 1) := by decide +kernel
theorem d_Mo_add_37 : decode prog_10_method_11_code 37 = .ok (.iadd, 1) := by decide +kernel
theorem d_Mo_add_38 : decode prog_10_method_11_code 38 = .ok (.putfield 86, 3) := by decide +kernel
theorem d_Mo_add_41 : decode prog_10_method_11_code 41 = .ok (.aload_n 0, 1) := by decide +kernel
theorem d_Mo_add_42 : decode prog_10_method_11_code 42 = .ok (.dup, 1) := by decide +kernel
theorem d_Mo_add_43 : decode prog_10_method_11_code 43 = .ok (.getfield 89, 3) := by decide +kernel
theorem d_Mo_add_46 : decode prog_10_method_11_code 46 = .ok (.iconst 1, 1) := by decide +kernel
theorem d_Mo_add_47 : decode prog_10_method_11_code 47 = .ok (.iadd, 1) := by decide +kernel
theorem d_Mo_add_48 : decode prog_10_method_11_code 48 = .ok (.putfield 89, 3) := by decide +kernel
theorem d_Mo_add_51 : decode prog_10_method_11_code 51 = .ok (.aload_n 0, 1) := by decide +kernel
theorem d_Mo_add_52 : decode prog_10_method_11_code 52 = .ok (.aload_n 0, 1) := by decide +kernel
theorem d_Mo_add_53 : decode prog_10_method_11_code 53 = .ok (.getfield 86, 3) := by decide +kernel
theorem d_Mo_add_56 : decode prog_10_method_11_code 56 = .ok (.iconst 1, 1) := by decide +kernel
theorem d_Mo_add_57 : decode prog_10_method_11_code 57 = .ok (.isub, 1) := by decide +kernel
theorem d_Mo_add_58 : decode prog_10_method_11_code 58 = .ok (.invokevirtual 92, 3) := by decide +kernel
theorem d_Mo_add_61 : decode prog_10_method_11_code 61 = .ok (.return_, 1) := by decide +kernel
theorem d_Mo_act_0 : decode prog_10_method_10_code 0 = .ok (.bipush 120, 2) := by decide +kernel
theorem d_Mo_act_2 : decode prog_10_method_10_code 2 = .ok (.iload_n 1, 1) := by decide +kernel
theorem d_Mo_act_3 : decode prog_10_method_10_code 3 = .ok (.iadd, 1) := by decide +kernel
theorem d_Mo_act_4 : decode prog_10_method_10_code 4 = .ok (.istore_n 2, 1) := by decide +kernel
theorem d_Mo_act_5 : decode prog_10_method_10_code 5 = .ok (.aload_n 0, 1) := by decide +kernel
theorem d_Mo_act_6 : decode prog_10_method_10_code 6 = .ok (.aload_n 0, 1) := by decide +kernel
theorem d_Mo_act_7 : decode prog_10_method_10_code 7 = .ok (.getfield 16, 3) := by decide +kernel
theorem d_Mo_act_10 : decode prog_10_method_10_code 10 = .ok (.iload_n 2, 1) := by decide +kernel
theorem d_Mo_act_11 : decode prog_10_method_10_code 11 = .ok (.iaload, 1) := by decide +kernel
theorem d_Mo_act_12 : decode prog_10_method_10_code 12 = .ok (.aload_n 0, 1) := by decide +kernel
theorem d_Mo_act_13 : decode prog_10_method_10_code 13 = .ok (.getfield 20, 3) := by decide +kernel
theorem d_Mo_act_16 : decode prog_10_method_10_code 16 = .ok (.iload_n 2, 1) := by decide +kernel
theorem d_Mo_act_17 : decode prog_10_method_10_code 17 = .ok (.iaload, 1) := by decide +kernel
theorem d_Mo_act_18 : decode prog_10_method_10_code 18 = .ok (.iload_n 2, 1) := by decide +kernel
theorem d_Mo_act_19 : decode prog_10_method_10_code 19 = .ok (.invokevirtual 78, 3) := by decide +kernel
theorem d_Mo_act_22 : decode prog_10_method_10_code 22 = .ok (.istore_n 3, 1) := by decide +kernel
theorem d_Mo_act_23 : decode prog_10_method_10_code 23 = .ok (.aload_n 0, 1) := by decide +kernel
theorem d_Mo_act_24 : decode prog_10_method_10_code 24 = .ok (.getfield 36, 3) := by decide +kernel
theorem d_Mo_act_27 : decode prog_10_method_10_code 27 = .ok (.iload_n 1, 1) := by decide +kernel
theorem d_Mo_act_28 : decode prog_10_method_10_code 28 = .ok (.iaload, 1) := by decide +kernel
theorem d_Mo_act_29 : decode prog_10_method_10_code 29 = .ok (.ifCond .ne 32, 3) := by decide +kernel
theorem d_Mo_act_32 : decode prog_10_method_10_code 32 = .ok (.iload_n 3, 1) := by decide +kernel
theorem d_Mo_act_33 : decode prog_10_method_10_code 33 = .ok (.iconst (-1), 1) := by decide +kernel
theorem d_Mo_act_34 : decode prog_10_method_10_code 34 = .ok (.if_icmp .ne 18, 3) := by decide +kernel
theorem d_Mo_act_37 : decode prog_10_method_10_code 37 = .ok (.aload_n 0, 1) := by decide +kernel
theorem d_Mo_act_38 : decode prog_10_method_10_code 38 = .ok (.getfield 67, 3) := by decide +kernel
theorem d_Mo_act_41 : decode prog_10_method_10_code 41 = .ok (.istore_n 3, 1) := by decide +kernel
theorem d_Mo_act_42 : decode prog_10_method_10_code 42 = .ok (.aload_n 0, 1) := by decide +kernel
theorem d_Mo_act_43 : decode prog_10_method_10_code 43 = .ok (.dup, 1) := by decide +kernel
theorem d_Mo_act_44 : decode prog_10_method_10_code 44 = .ok (.getfield 67, 3) := by decide +kernel
theorem d_Mo_act_47 : decode prog_10_method_10_code 47 = .ok (.iconst 1, 1) := by decide +kernel
theorem d_Mo_act_48 : decode prog_10_method_10_code 48 = .ok (.iadd, 1) := by decide +kernel
theorem d_Mo_act_49 : decode prog_10_method_10_code 49 = .ok (.putfield 67, 3) := by decide +kernel
theorem d_Mo_act_52 : decode prog_10_method_10_code 52 = .ok (.aload_n 0, 1) := by decide +kernel
theorem d_Mo_act_53 : decode prog_10_method_10_code 53 = .ok (.iload_n 2, 1) := by decide +kernel
theorem d_Mo_act_54 : decode prog_10_method_10_code 54 = .ok (.iload_n 3, 1) := by decide +kernel
theorem d_Mo_act_55 : decode prog_10_method_10_code 55 = .ok (.invokevirtual 74, 3) := by decide +kernel
theorem d_Mo_act_58 : decode prog_10_method_10_code 58 = .ok (.goto 106, 3) := by decide +kernel
theorem d_Mo_act_61 : decode prog_10_method_10_code 61 = .ok (.aload_n 0, 1) := by decide +kernel
theorem d_Mo_act_62 : decode prog_10_method_10_code 62 = .ok (.getfield 36, 3) := by decide +kernel
theorem d_Mo_act_65 : decode prog_10_method_10_code 65 = .ok (.iload_n 1, 1) := by decide +kernel
theorem d_Mo_act_66 : decode prog_10_method_10_code 66 = .ok (.iaload, 1) := by decide +kernel
theorem d_Mo_act_67 : decode prog_10_method_10_code 67 = .ok (.iconst 2, 1) := by decide +kernel
theorem d_Mo_act_68 : decode prog_10_method_10_code 68 = .ok (.if_icmp .ne 11, 3) := by decide +kernel
theorem d_Mo_act_71 : decode prog_10_method_10_code 71 = .ok (.aload_n 0, 1) := by decide +kernel
theorem d_Mo_act_72 : decode prog_10_method_10_code 72 = .ok (.iload_n 3, 1) := by decide +kernel
theorem d_Mo_act_73 : decode prog_10_method_10_code 73 = .ok (.invokevirtual 82, 3) := by decide +kernel
theorem d_Mo_act_76 : decode prog_10_method_10_code 76 = .ok (.goto 88, 3) := by decide +kernel
theorem d_Mo_act_79 : decode prog_10_method_10_code 79 = .ok (.aload_n 0, 1) := by decide +kernel
theorem d_Mo_act_80 : decode prog_10_method_10_code 80 = .ok (.getfield 39, 3) := by decide +kernel
theorem d_Mo_act_83 : decode prog_10_method_10_code 83 = .ok (.iload_n 1, 1) := by decide +kernel
theorem d_Mo_act_84 : decode prog_10_method_10_code 84 = .ok (.iaload, 1) := by decide +kernel
theorem d_Mo_act_85 : decode prog_10_method_10_code 85 = .ok (.aload_n 0, 1) := by decide +kernel
theorem d_Mo_act_86 : decode prog_10_method_10_code 86 = .ok (.getfield 16, 3) := by decide +kernel
theorem d_Mo_act_89 : decode prog_10_method_10_code 89 = .ok (.iload_n 2, 1) := by decide +kernel
theorem d_Mo_act_90 : decode prog_10_method_10_code 90 = .ok (.iaload, 1) := by decide +kernel
theorem d_Mo_act_91 : decode prog_10_method_10_code 91 = .ok (.if_icmp .ne 18, 3) := by decide +kernel
theorem d_Mo_act_94 : decode prog_10_method_10_code 94 = .ok (.aload_n 0, 1) := by decide +kernel
theorem d_Mo_act_95 : decode prog_10_method_10_code 95 = .ok (.getfield 42, 3) := by decide +kernel
theorem d_Mo_act_98 : decode prog_10_method_10_code 98 = .ok (.iload_n 1, 1) := by decide +kernel
theorem d_Mo_act_99 : decode prog_10_method_10_code 99 = .ok (.iaload, 1) := by decide +kernel
theorem d_Mo_act_100 : decode prog_10_method_10_code 100 = .ok (.aload_n 0, 1) := by decide +kernel
theorem d_Mo_act_101 : decode prog_10_method_10_code 101 = .ok (.getfield 20, 3) := by decide +kernel
theorem d_Mo_act_104 : decode prog_10_method_10_code 104 = .ok (.iload_n 2, 1) := by decide +kernel
theorem d_Mo_act_105 : decode prog_10_method_10_code 105 = .ok (.iaload, 1) := by decide +kernel
theorem d_Mo_act_106 : decode prog_10_method_10_code 106 = .ok (.if_icmp .eq 58, 3) := by decide +kernel
theorem d_Mo_act_109 : decode prog_10_method_10_code 109 = .ok (.aload_n 0, 1) := by decide +kernel
theorem d_Mo_act_110 : decode prog_10_method_10_code 110 = .ok (.aload_n 0, 1) := by decide +kernel
theorem d_Mo_act_111 : decode prog_10_method_10_code 111 = .ok (.getfield 39, 3) := by decide +kernel
theorem d_Mo_act_114 : decode prog_10_method_10_code 114 = .ok (.iload_n 1, 1) := by decide +kernel
theorem d_Mo_act_115 : decode prog_10_method_10_code 115 = .ok (.iaload, 1) := by decide +kernel
theorem d_Mo_act_116 : decode prog_10_method_10_code 116 = .ok (.aload_n 0, 1) := by decide +kernel
theorem d_Mo_act_117 : decode prog_10_method_10_code 117 = .ok (.getfield 42, 3) := by decide +kernel
theorem d_Mo_act_120 : decode prog_10_method_10_code 120 = .ok (.iload_n 1, 1) := by decide +kernel
theorem d_Mo_act_121 : decode prog_10_method_10_code 121 = .ok (.iaload, 1) := by decide +kernel
theorem d_Mo_act_122 : decode prog_10_method_10_code 122 = .ok (.iload_n 2, 1) := by decide +kernel
theorem d_Mo_act_123 : decode prog_10_method_10_code 123 = .ok (.invokevirtual 78, 3) := by decide +kernel
theorem d_Mo_act_126 : decode prog_10_method_10_code 126 = .ok (.istore 4, 2) := by decide +kernel
theorem d_Mo_act_128 : decode prog_10_method_10_code 128 = .ok (.aload_n 0, 1) := by decide +kernel
theorem d_Mo_act_129 : decode prog_10_method_10_code 129 = .ok (.getfield 16, 3) := by decide +kernel
theorem d_Mo_act_132 : decode prog_10_method_10_code 132 = .ok (.iload_n 3, 1) := by decide +kernel
theorem d_Mo_act_133 : decode prog_10_method_10_code 133 = .ok (.aload_n 0, 1) := by decide +kernel
theorem d_Mo_act_134 : decode prog_10_method_10_code 134 = .ok (.getfield 39, 3) := by decide +kernel
theorem d_Mo_act_137 : decode prog_10_method_10_code 137 = .ok (.iload_n 1, 1) := by decide +kernel
theorem d_Mo_act_138 : decode prog_10_method_10_code 138 = .ok (.iaload, 1) := by decide +kernel
theorem d_Mo_act_139 : decode prog_10_method_10_code 139 = .ok (.iastore, 1) := by decide +kernel
theorem d_Mo_act_140 : decode prog_10_method_10_code 140 = .ok (.aload_n 0, 1) := by decide +kernel
theorem d_Mo_act_141 : decode prog_10_method_10_code 141 = .ok (.getfield 20, 3) := by decide +kernel
theorem d_Mo_act_144 : decode prog_10_method_10_code 144 = .ok (.iload_n 3, 1) := by decide +kernel
theorem d_Mo_act_145 : decode prog_10_method_10_code 145 = .ok (.aload_n 0, 1) := by decide +kernel
theorem d_Mo_act_146 : decode prog_10_method_10_code 146 = .ok (.getfield 42, 3) := by decide +kernel
theorem d_Mo_act_149 : decode prog_10_method_10_code 149 = .ok (.iload_n 1, 1) := by decide +kernel
theorem d_Mo_act_150 : decode prog_10_method_10_code 150 = .ok (.iaload, 1) := by decide +kernel
theorem d_Mo_act_151 : decode prog_10_method_10_code 151 = .ok (.iastore, 1) := by decide +kernel
theorem d_Mo_act_152 : decode prog_10_method_10_code 152 = .ok (.iload 4, 2) := by decide +kernel
theorem d_Mo_act_154 : decode prog_10_method_10_code 154 = .ok (.iconst (-1), 1) := by decide +kernel
theorem d_Mo_act_155 : decode prog_10_method_10_code 155 = .ok (.if_icmp .eq 9, 3) := by decide +kernel
theorem d_Mo_act_158 : decode prog_10_method_10_code 158 = .ok (.aload_n 0, 1) := by decide +kernel
theorem d_Mo_act_159 : decode prog_10_method_10_code 159 = .ok (.iload 4, 2) := by decide +kernel
theorem d_Mo_act_161 : decode prog_10_method_10_code 161 = .ok (.invokevirtual 82, 3) := by decide +kernel
theorem d_Mo_act_164 : decode prog_10_method_10_code 164 = .ok (.return_, 1) := by decide +kernel
theorem d_Mo_find_0 : decode prog_10_method_8_code 0 = .ok (.iconst 0, 1) := by decide +kernel
theorem d_Mo_find_1 : decode prog_10_method_8_code 1 = .ok (.istore 4, 2) := by decide +kernel
theorem d_Mo_find_3 : decode prog_10_method_8_code 3 = .ok (.iload 4, 2) := by decide +kernel
theorem d_Mo_find_5 : decode prog_10_method_8_code 5 = .ok (.aload_n 0, 1) := by decide +kernel
theorem d_Mo_find_6 : decode prog_10_method_8_code 6 = .ok (.getfield 67, 3) := by decide +kernel
theorem d_Mo_find_9 : decode prog_10_method_8_code 9 = .ok (.if_icmp .ge 44, 3) := by decide +kernel
theorem d_Mo_find_12 : decode prog_10_method_8_code 12 = .ok (.aload_n 0, 1) := by decide +kernel
theorem d_Mo_find_13 : decode prog_10_method_8_code 13 = .ok (.getfield 16, 3) := by decide +kernel
theorem d_Mo_find_16 : decode prog_10_method_8_code 16 = .ok (.iload 4, 2) := by decide +kernel
theorem d_Mo_find_18 : decode prog_10_method_8_code 18 = .ok (.iaload, 1) := by decide +kernel
theorem d_Mo_find_19 : decode prog_10_method_8_code 19 = .ok (.iload_n 1, 1) := by decide +kernel
theorem d_Mo_find_20 : decode prog_10_method_8_code 20 = .ok (.if_icmp .ne 27, 3) := by decide +kernel
theorem d_Mo_find_23 : decode prog_10_method_8_code 23 = .ok (.aload_n 0, 1) := by decide +kernel
theorem d_Mo_find_24 : decode prog_10_method_8_code 24 = .ok (.getfield 20, 3) := by decide +kernel
theorem d_Mo_find_27 : decode prog_10_method_8_code 27 = .ok (.iload 4, 2) := by decide +kernel
theorem d_Mo_find_29 : decode prog_10_method_8_code 29 = .ok (.iaload, 1) := by decide +kernel
theorem d_Mo_find_30 : decode prog_10_method_8_code 30 = .ok (.iload_n 2, 1) := by decide +kernel
theorem d_Mo_find_31 : decode prog_10_method_8_code 31 = .ok (.if_icmp .ne 16, 3) := by decide +kernel
theorem d_Mo_find_34 : decode prog_10_method_8_code 34 = .ok (.aload_n 0, 1) := by decide +kernel
theorem d_Mo_find_35 : decode prog_10_method_8_code 35 = .ok (.iload 4, 2) := by decide +kernel
theorem d_Mo_find_37 : decode prog_10_method_8_code 37 = .ok (.iload_n 3, 1) := by decide +kernel
theorem d_Mo_find_38 : decode prog_10_method_8_code 38 = .ok (.invokevirtual 70, 3) := by decide +kernel
theorem d_Mo_find_41 : decode prog_10_method_8_code 41 = .ok (.ifCond .eq 6, 3) := by decide +kernel
theorem d_Mo_find_44 : decode prog_10_method_8_code 44 = .ok (.iload 4, 2) := by decide +kernel
theorem d_Mo_find_46 : decode prog_10_method_8_code 46 = .ok (.ireturn, 1) := by decide +kernel
theorem d_Mo_find_47 : decode prog_10_method_8_code 47 = .ok (.iinc 4 1, 3) := by decide +kernel
theorem d_Mo_find_50 : decode prog_10_method_8_code 50 = .ok (.goto (-47), 3) := by decide +kernel
theorem d_Mo_find_53 : decode prog_10_method_8_code 53 = .ok (.iconst (-1), 1) := by decide +kernel
theorem d_Mo_find_54 : decode prog_10_method_8_code 54 = .ok (.ireturn, 1) := by decide +kernel
theorem d_Mo_hasPath_0 : decode prog_10_method_7_code 0 = .ok (.aload_n 0, 1) := by decide +kernel
theorem d_Mo_hasPath_1 : decode prog_10_method_7_code 1 = .ok (.getfield 23, 3) := by decide +kernel
theorem d_Mo_hasPath_4 : decode prog_10_method_7_code 4 = .ok (.iload_n 1, 1) := by decide +kernel
theorem d_Mo_hasPath_5 : decode prog_10_method_7_code 5 = .ok (.iaload, 1) := by decide +kernel
theorem d_Mo_hasPath_6 : decode prog_10_method_7_code 6 = .ok (.aload_n 0, 1) := by decide +kernel
theorem d_Mo_hasPath_7 : decode prog_10_method_7_code 7 = .ok (.getfield 23, 3) := by decide +kernel
theorem d_Mo_hasPath_10 : decode prog_10_method_7_code 10 = .ok (.iload_n 2, 1) := by decide +kernel
theorem d_Mo_hasPath_11 : decode prog_10_method_7_code 11 = .ok (.iaload, 1) := by decide +kernel
theorem d_Mo_hasPath_12 : decode prog_10_method_7_code 12 = .ok (.if_icmp .ne 7, 3) := by decide +kernel
theorem d_Mo_hasPath_15 : decode prog_10_method_7_code 15 = .ok (.iconst 1, 1) := by decide +kernel
theorem d_Mo_hasPath_16 : decode prog_10_method_7_code 16 = .ok (.goto 4, 3) := by decide +kernel
theorem d_Mo_hasPath_19 : decode prog_10_method_7_code 19 = .ok (.iconst 0, 1) := by decide +kernel
theorem d_Mo_hasPath_20 : decode prog_10_method_7_code 20 = .ok (.istore_n 3, 1) := by decide +kernel
theorem d_Mo_hasPath_21 : decode prog_10_method_7_code 21 = .ok (.iconst 0, 1) := by decide +kernel
theorem d_Mo_hasPath_22 : decode prog_10_method_7_code 22 = .ok (.istore 4, 2) := by decide +kernel
theorem d_Mo_hasPath_24 : decode prog_10_method_7_code 24 = .ok (.iload 4, 2) := by decide +kernel
theorem d_Mo_hasPath_26 : decode prog_10_method_7_code 26 = .ok (.aload_n 0, 1) := by decide +kernel
theorem d_Mo_hasPath_27 : decode prog_10_method_7_code 27 = .ok (.getfield 23, 3) := by decide +kernel
theorem d_Mo_hasPath_30 : decode prog_10_method_7_code 30 = .ok (.iload_n 1, 1) := by decide +kernel
theorem d_Mo_hasPath_31 : decode prog_10_method_7_code 31 = .ok (.iaload, 1) := by decide +kernel
theorem d_Mo_hasPath_32 : decode prog_10_method_7_code 32 = .ok (.if_icmp .ge 46, 3) := by decide +kernel
theorem d_Mo_hasPath_35 : decode prog_10_method_7_code 35 = .ok (.iload_n 3, 1) := by decide +kernel
theorem d_Mo_hasPath_36 : decode prog_10_method_7_code 36 = .ok (.ifCond .eq 42, 3) := by decide +kernel
theorem d_Mo_hasPath_39 : decode prog_10_method_7_code 39 = .ok (.aload_n 0, 1) := by decide +kernel
theorem d_Mo_hasPath_40 : decode prog_10_method_7_code 40 = .ok (.getfield 29, 3) := by decide +kernel
theorem d_Mo_hasPath_43 : decode prog_10_method_7_code 43 = .ok (.bipush 100, 2) := by decide +kernel
theorem d_Mo_hasPath_45 : decode prog_10_method_7_code 45 = .ok (.iload_n 1, 1) := by decide +kernel
theorem d_Mo_hasPath_46 : decode prog_10_method_7_code 46 = .ok (.imul, 1) := by decide +kernel
theorem d_Mo_hasPath_47 : decode prog_10_method_7_code 47 = .ok (.iload 4, 2) := by decide +kernel
theorem d_Mo_hasPath_49 : decode prog_10_method_7_code 49 = .ok (.iadd, 1) := by decide +kernel
theorem d_Mo_hasPath_50 : decode prog_10_method_7_code 50 = .ok (.baload, 1) := by decide +kernel
theorem d_Mo_hasPath_51 : decode prog_10_method_7_code 51 = .ok (.aload_n 0, 1) := by decide +kernel
theorem d_Mo_hasPath_52 : decode prog_10_method_7_code 52 = .ok (.getfield 29, 3) := by decide +kernel
theorem d_Mo_hasPath_55 : decode prog_10_method_7_code 55 = .ok (.bipush 100, 2) := by decide +kernel
theorem d_Mo_hasPath_57 : decode prog_10_method_7_code 57 = .ok (.iload_n 2, 1) := by decide +kernel
theorem d_Mo_hasPath_58 : decode prog_10_method_7_code 58 = .ok (.imul, 1) := by decide +kernel
theorem d_Mo_hasPath_59 : decode prog_10_method_7_code 59 = .ok (.iload 4, 2) := by decide +kernel
theorem d_Mo_hasPath_61 : decode prog_10_method_7_code 61 = .ok (.iadd, 1) := by decide +kernel
theorem d_Mo_hasPath_62 : decode prog_10_method_7_code 62 = .ok (.baload, 1) := by decide +kernel
theorem d_Mo_hasPath_63 : decode prog_10_method_7_code 63 = .ok (.if_icmp .ne 7, 3) := by decide +kernel
theorem d_Mo_hasPath_66 : decode prog_10_method_7_code 66 = .ok (.iconst 1, 1) := by decide +kernel
theorem d_Mo_hasPath_67 : decode prog_10_method_7_code 67 = .ok (.goto 4, 3) := by decide +kernel
theorem d_Mo_hasPath_70 : decode prog_10_method_7_code 70 = .ok (.iconst 0, 1) := by decide +kernel
theorem d_Mo_hasPath_71 : decode prog_10_method_7_code 71 = .ok (.istore_n 3, 1) := by decide +kernel
theorem d_Mo_hasPath_72 : decode prog_10_method_7_code 72 = .ok (.iinc 4 1, 3) := by decide +kernel
theorem d_Mo_hasPath_75 : decode prog_10_method_7_code 75 = .ok (.goto (-51), 3) := by decide +kernel
theorem d_Mo_hasPath_78 : decode prog_10_method_7_code 78 = .ok (.iload_n 3, 1) := by decide +kernel
theorem d_Mo_hasPath_79 : decode prog_10_method_7_code 79 = .ok (.ireturn, 1) := by decide +kernel
theorem d_Mo_copy_0 : decode prog_10_method_5_code 0 = .ok (.aload_n 0, 1) := by decide +kernel
theorem d_Mo_copy_1 : decode prog_10_method_5_code 1 = .ok (.getfield 16, 3) := by decide +kernel
theorem d_Mo_copy_4 : decode prog_10_method_5_code 4 = .ok (.iload_n 2, 1) := by decide +kernel
theorem d_Mo_copy_5 : decode prog_10_method_5_code 5 = .ok (.aload_n 0, 1) := by decide +kernel
theorem d_Mo_copy_6 : decode prog_10_method_5_code 6 = .ok (.getfield 16, 3) := by decide +kernel
theorem d_Mo_copy_9 : decode prog_10_method_5_code 9 = .ok (.iload_n 1, 1) := by decide +kernel
theorem d_Mo_copy_10 : decode prog_10_method_5_code 10 = .ok (.iaload, 1) := by decide +kernel
theorem d_Mo_copy_11 : decode prog_10_method_5_code 11 = .ok (.iastore, 1) := by decide +kernel
theorem d_Mo_copy_12 : decode prog_10_method_5_code 12 = .ok (.aload_n 0, 1) := by decide +kernel
theorem d_Mo_copy_13 : decode prog_10_method_5_code 13 = .ok (.getfield 20, 3) := by decide +kernel
theorem d_Mo_copy_16 : decode prog_10_method_5_code 16 = .ok (.iload_n 2, 1) := by decide +kernel
theorem d_Mo_copy_17 : decode prog_10_method_5_code 17 = .ok (.aload_n 0, 1) := by decide +kernel
theorem d_Mo_copy_18 : decode prog_10_method_5_code 18 = .ok (.getfield 20, 3) := by decide +kernel
theorem d_Mo_copy_21 : decode prog_10_method_5_code 21 = .ok (.iload_n 1, 1) := by decide +kernel
theorem d_Mo_copy_22 : decode prog_10_method_5_code 22 = .ok (.iaload, 1) := by decide +kernel
theorem d_Mo_copy_23 : decode prog_10_method_5_code 23 = .ok (.iastore, 1) := by decide +kernel
theorem d_Mo_copy_24 : decode prog_10_method_5_code 24 = .ok (.aload_n 0, 1) := by decide +kernel
theorem d_Mo_copy_25 : decode prog_10_method_5_code 25 = .ok (.getfield 23, 3) := by decide +kernel
theorem d_Mo_copy_28 : decode prog_10_method_5_code 28 = .ok (.iload_n 2, 1) := by decide +kernel
theorem d_Mo_copy_29 : decode prog_10_method_5_code 29 = .ok (.aload_n 0, 1) := by decide +kernel
theorem d_Mo_copy_30 : decode prog_10_method_5_code 30 = .ok (.getfield 23, 3) := by decide +kernel
theorem d_Mo_copy_33 : decode prog_10_method_5_code 33 = .ok (.iload_n 1, 1) := by decide +kernel
theorem d_Mo_copy_34 : decode prog_10_method_5_code 34 = .ok (.iaload, 1) := by decide +kernel
theorem d_Mo_copy_35 : decode prog_10_method_5_code 35 = .ok (.iastore, 1) := by decide +kernel
theorem d_Mo_copy_36 : decode prog_10_method_5_code 36 = .ok (.aload_n 0, 1) := by decide +kernel
theorem d_Mo_copy_37 : decode prog_10_method_5_code 37 = .ok (.getfield 26, 3) := by decide +kernel
theorem d_Mo_copy_40 : decode prog_10_method_5_code 40 = .ok (.iload_n 2, 1) := by decide +kernel
theorem d_Mo_copy_41 : decode prog_10_method_5_code 41 = .ok (.aload_n 0, 1) := by decide +kernel
theorem d_Mo_copy_42 : decode prog_10_method_5_code 42 = .ok (.getfield 26, 3) := by decide +kernel
theorem d_Mo_copy_45 : decode prog_10_method_5_code 45 = .ok (.iload_n 1, 1) := by decide +kernel
theorem d_Mo_copy_46 : decode prog_10_method_5_code 46 = .ok (.iaload, 1) := by decide +kernel
theorem d_Mo_copy_47 : decode prog_10_method_5_code 47 = .ok (.iastore, 1) := by decide +kernel
theorem d_Mo_copy_48 : decode prog_10_method_5_code 48 = .ok (.iconst 0, 1) := by decide +kernel
theorem d_Mo_copy_49 : decode prog_10_method_5_code 49 = .ok (.istore_n 3, 1) := by decide +kernel
theorem d_Mo_copy_50 : decode prog_10_method_5_code 50 = .ok (.iload_n 3, 1) := by decide +kernel
theorem d_Mo_copy_51 : decode prog_10_method_5_code 51 = .ok (.aload_n 0, 1) := by decide +kernel
theorem d_Mo_copy_52 : decode prog_10_method_5_code 52 = .ok (.getfield 23, 3) := by decide +kernel
theorem d_Mo_copy_55 : decode prog_10_method_5_code 55 = .ok (.iload_n 1, 1) := by decide +kernel
theorem d_Mo_copy_56 : decode prog_10_method_5_code 56 = .ok (.iaload, 1) := by decide +kernel
theorem d_Mo_copy_57 : decode prog_10_method_5_code 57 = .ok (.if_icmp .ge 31, 3) := by decide +kernel
theorem d_Mo_copy_60 : decode prog_10_method_5_code 60 = .ok (.aload_n 0, 1) := by decide +kernel
theorem d_Mo_copy_61 : decode prog_10_method_5_code 61 = .ok (.getfield 29, 3) := by decide +kernel
theorem d_Mo_copy_64 : decode prog_10_method_5_code 64 = .ok (.bipush 100, 2) := by decide +kernel
theorem d_Mo_copy_66 : decode prog_10_method_5_code 66 = .ok (.iload_n 2, 1) := by decide +kernel
theorem d_Mo_copy_67 : decode prog_10_method_5_code 67 = .ok (.imul, 1) := by decide +kernel
theorem d_Mo_copy_68 : decode prog_10_method_5_code 68 = .ok (.iload_n 3, 1) := by decide +kernel
theorem d_Mo_copy_69 : decode prog_10_method_5_code 69 = .ok (.iadd, 1) := by decide +kernel
theorem d_Mo_copy_70 : decode prog_10_method_5_code 70 = .ok (.aload_n 0, 1) := by decide +kernel
theorem d_Mo_copy_71 : decode prog_10_method_5_code 71 = .ok (.getfield 29, 3) := by decide +kernel
theorem d_Mo_copy_74 : decode prog_10_method_5_code 74 = .ok (.bipush 100, 2) := by decide +kernel
theorem d_Mo_copy_76 : decode prog_10_method_5_code 76 = .ok (.iload_n 1, 1) := by decide +kernel
theorem d_Mo_copy_77 : decode prog_10_method_5_code 77 = .ok (.imul, 1) := by decide +kernel
theorem d_Mo_copy_78 : decode prog_10_method_5_code 78 = .ok (.iload_n 3, 1) := by decide +kernel
theorem d_Mo_copy_79 : decode prog_10_method_5_code 79 = .ok (.iadd, 1) := by decide +kernel
theorem d_Mo_copy_80 : decode prog_10_method_5_code 80 = .ok (.baload, 1) := by decide +kernel
theorem d_Mo_copy_81 : decode prog_10_method_5_code 81 = .ok (.bastore, 1) := by decide +kernel
theorem d_Mo_copy_82 : decode prog_10_method_5_code 82 = .ok (.iinc 3 1, 3) := by decide +kernel
theorem d_Mo_copy_85 : decode prog_10_method_5_code 85 = .ok (.goto (-35), 3) := by decide +kernel
theorem d_Mo_copy_88 : decode prog_10_method_5_code 88 = .ok (.iconst 0, 1) := by decide +kernel
theorem d_Mo_copy_89 : decode prog_10_method_5_code 89 = .ok (.istore_n 3, 1) := by decide +kernel
theorem d_Mo_copy_90 : decode prog_10_method_5_code 90 = .ok (.iload_n 3, 1) := by decide +kernel
theorem d_Mo_copy_91 : decode prog_10_method_5_code 91 = .ok (.aload_n 0, 1) := by decide +kernel
theorem d_Mo_copy_92 : decode prog_10_method_5_code 92 = .ok (.getfield 26, 3) := by decide +kernel
theorem d_Mo_copy_95 : decode prog_10_method_5_code 95 = .ok (.iload_n 1, 1) := by decide +kernel
theorem d_Mo_copy_96 : decode prog_10_method_5_code 96 = .ok (.iaload, 1) := by decide +kernel
theorem d_Mo_copy_97 : decode prog_10_method_5_code 97 = .ok (.if_icmp .ge 33, 3) := by decide +kernel
theorem d_Mo_copy_100 : decode prog_10_method_5_code 100 = .ok (.aload_n 0, 1) := by decide +kernel
theorem d_Mo_copy_101 : decode prog_10_method_5_code 101 = .ok (.getfield 33, 3) := by decide +kernel
theorem d_Mo_copy_104 : decode prog_10_method_5_code 104 = .ok (.sipush 400, 3) := by decide +kernel
theorem d_Mo_copy_107 : decode prog_10_method_5_code 107 = .ok (.iload_n 2, 1) := by decide +kernel
theorem d_Mo_copy_108 : decode prog_10_method_5_code 108 = .ok (.imul, 1) := by decide +kernel
theorem d_Mo_copy_109 : decode prog_10_method_5_code 109 = .ok (.iload_n 3, 1) := by decide +kernel
theorem d_Mo_copy_110 : decode prog_10_method_5_code 110 = .ok (.iadd, 1) := by decide +kernel
theorem d_Mo_copy_111 : decode prog_10_method_5_code 111 = .ok (.aload_n 0, 1) := by decide +kernel
theorem d_Mo_copy_112 : decode prog_10_method_5_code 112 = .ok (.getfield 33, 3) := by decide +kernel
theorem d_Mo_copy_115 : decode prog_10_method_5_code 115 = .ok (.sipush 400, 3) := by decide +kernel
theorem d_Mo_copy_118 : decode prog_10_method_5_code 118 = .ok (.iload_n 1, 1) := by decide +kernel
theorem d_Mo_copy_119 : decode prog_10_method_5_code 119 = .ok (.imul, 1) := by decide +kernel
theorem d_Mo_copy_120 : decode prog_10_method_5_code 120 = .ok (.iload_n 3, 1) := by decide +kernel
theorem d_Mo_copy_121 : decode prog_10_method_5_code 121 = .ok (.iadd, 1) := by decide +kernel
theorem d_Mo_copy_122 : decode prog_10_method_5_code 122 = .ok (.baload, 1) := by decide +kernel
theorem d_Mo_copy_123 : decode prog_10_method_5_code 123 = .ok (.bastore, 1) := by decide +kernel
theorem d_Mo_copy_124 : decode prog_10_method_5_code 124 = .ok (.iinc 3 1, 3) := by decide +kernel
theorem d_Mo_copy_127 : decode prog_10_method_5_code 127 = .ok (.goto (-37), 3) := by decide +kernel
theorem d_Mo_copy_130 : decode prog_10_method_5_code 130 = .ok (.return_, 1) := by decide +kernel
theorem d_Mo_drop_0 : decode prog_10_method_9_code 0 = .ok (.aload_n 0, 1) := by decide +kernel
theorem d_Mo_drop_1 : decode prog_10_method_9_code 1 = .ok (.dup, 1) := by decide +kernel
theorem d_Mo_drop_2 : decode prog_10_method_9_code 2 = .ok (.getfield 67, 3) := by decide +kernel
theorem d_Mo_drop_5 : decode prog_10_method_9_code 5 = .ok (.iconst 1, 1) := by decide +kernel
theorem d_Mo_drop_6 : decode prog_10_method_9_code 6 = .ok (.isub, 1) := by decide +kernel
theorem d_Mo_drop_7 : decode prog_10_method_9_code 7 = .ok (.putfield 67, 3) := by decide +kernel
theorem d_Mo_drop_10 : decode prog_10_method_9_code 10 = .ok (.iload_n 1, 1) := by decide +kernel
theorem d_Mo_drop_11 : decode prog_10_method_9_code 11 = .ok (.aload_n 0, 1) := by decide +kernel
theorem d_Mo_drop_12 : decode prog_10_method_9_code 12 = .ok (.getfield 67, 3) := by decide +kernel
theorem d_Mo_drop_15 : decode prog_10_method_9_code 15 = .ok (.if_icmp .ge 12, 3) := by decide +kernel
theorem d_Mo_drop_18 : decode prog_10_method_9_code 18 = .ok (.aload_n 0, 1) := by decide +kernel
theorem d_Mo_drop_19 : decode prog_10_method_9_code 19 = .ok (.aload_n 0, 1) := by decide +kernel
theorem d_Mo_drop_20 : decode prog_10_method_9_code 20 = .ok (.getfield 67, 3) := by decide +kernel
theorem d_Mo_drop_23 : decode prog_10_method_9_code 23 = .ok (.iload_n 1, 1) := by decide +kernel
theorem d_Mo_drop_24 : decode prog_10_method_9_code 24 = .ok (.invokevirtual 74, 3) := by decide +kernel
theorem d_Mo_drop_27 : decode prog_10_method_9_code 27 = .ok (.return_, 1) := by decide +kernel
theorem d_Mo_rename_0 : decode prog_10_method_16_code 0 = .ok (.iload_n 1, 1) := by decide +kernel
theorem d_Mo_rename_1 : decode prog_10_method_16_code 1 = .ok (.iload_n 2, 1) := by decide +kernel
theorem d_Mo_rename_2 : decode prog_10_method_16_code 2 = .ok (.invokestatic 99, 3) := by decide +kernel
theorem d_Mo_rename_5 : decode prog_10_method_16_code 5 = .ok (.ifCond .eq 16, 3) := by decide +kernel
theorem d_Mo_rename_8 : decode prog_10_method_16_code 8 = .ok (.iload_n 3, 1) := by decide +kernel
theorem d_Mo_rename_9 : decode prog_10_method_16_code 9 = .ok (.iload 4, 2) := by decide +kernel
theorem d_Mo_rename_11 : decode prog_10_method_16_code 11 = .ok (.invokestatic 99, 3) := by decide +kernel
theorem d_Mo_rename_14 : decode prog_10_method_16_code 14 = .ok (.ifCond .eq 7, 3) := by decide +kernel
theorem d_Mo_rename_17 : decode prog_10_method_16_code 17 = .ok (.iconst 1, 1) := by decide +kernel
theorem d_Mo_rename_18 : decode prog_10_method_16_code 18 = .ok (.goto 4, 3) := by decide +kernel
theorem d_Mo_rename_21 : decode prog_10_method_16_code 21 = .ok (.iconst 0, 1) := by decide +kernel
theorem d_Mo_rename_22 : decode prog_10_method_16_code 22 = .ok (.istore 5, 2) := by decide +kernel
theorem d_Mo_rename_24 : decode prog_10_method_16_code 24 = .ok (.aload_n 0, 1) := by decide +kernel
theorem d_Mo_rename_25 : decode prog_10_method_16_code 25 = .ok (.iload 5, 2) := by decide +kernel
theorem d_Mo_rename_27 : decode prog_10_method_16_code 27 = .ok (.ifCond .ne 7, 3) := by decide +kernel
theorem d_Mo_rename_30 : decode prog_10_method_16_code 30 = .ok (.iconst 1, 1) := by decide +kernel
theorem d_Mo_rename_31 : decode prog_10_method_16_code 31 = .ok (.goto 32, 3) := by decide +kernel
theorem d_Mo_rename_34 : decode prog_10_method_16_code 34 = .ok (.aload_n 0, 1) := by decide +kernel
theorem d_Mo_rename_35 : decode prog_10_method_16_code 35 = .ok (.iload_n 1, 1) := by decide +kernel
theorem d_Mo_rename_36 : decode prog_10_method_16_code 36 = .ok (.iload_n 2, 1) := by decide +kernel
theorem d_Mo_rename_37 : decode prog_10_method_16_code 37 = .ok (.invokevirtual 95, 3) := by decide +kernel
theorem d_Mo_rename_40 : decode prog_10_method_16_code 40 = .ok (.iconst (-1), 1) := by decide +kernel
theorem d_Mo_rename_41 : decode prog_10_method_16_code 41 = .ok (.if_icmp .ne 7, 3) := by decide +kernel
theorem d_Mo_rename_44 : decode prog_10_method_16_code 44 = .ok (.iconst 2, 1) := by decide +kernel
theorem d_Mo_rename_45 : decode prog_10_method_16_code 45 = .ok (.goto 18, 3) := by decide +kernel
theorem d_Mo_rename_48 : decode prog_10_method_16_code 48 = .ok (.aload_n 0, 1) := by decide +kernel
theorem d_Mo_rename_49 : decode prog_10_method_16_code 49 = .ok (.getfield 86, 3) := by decide +kernel
theorem d_Mo_rename_52 : decode prog_10_method_16_code 52 = .ok (.sipush 200, 3) := by decide +kernel
theorem d_Mo_rename_55 : decode prog_10_method_16_code 55 = .ok (.if_icmp .ne 7, 3) := by decide +kernel
theorem d_Mo_rename_58 : decode prog_10_method_16_code 58 = .ok (.iconst 3, 1) := by decide +kernel
theorem d_Mo_rename_59 : decode prog_10_method_16_code 59 = .ok (.goto 4, 3) := by decide +kernel
theorem d_Mo_rename_62 : decode prog_10_method_16_code 62 = .ok (.iconst 0, 1) := by decide +kernel
theorem d_Mo_rename_63 : decode prog_10_method_16_code 63 = .ok (.putfield 57, 3) := by decide +kernel
theorem d_Mo_rename_66 : decode prog_10_method_16_code 66 = .ok (.aload_n 0, 1) := by decide +kernel
theorem d_Mo_rename_67 : decode prog_10_method_16_code 67 = .ok (.getfield 57, 3) := by decide +kernel
theorem d_Mo_rename_70 : decode prog_10_method_16_code 70 = .ok (.ifCond .ne 27, 3) := by decide +kernel
theorem d_Mo_rename_73 : decode prog_10_method_16_code 73 = .ok (.aload_n 0, 1) := by decide +kernel
theorem d_Mo_rename_74 : decode prog_10_method_16_code 74 = .ok (.invokevirtual 102, 3) := by decide +kernel
theorem d_Mo_rename_77 : decode prog_10_method_16_code 77 = .ok (.istore 6, 2) := by decide +kernel
theorem d_Mo_rename_79 : decode prog_10_method_16_code 79 = .ok (.aload_n 0, 1) := by decide +kernel
theorem d_Mo_rename_80 : decode prog_10_method_16_code 80 = .ok (.iload 6, 2) := by decide +kernel
theorem d_Mo_rename_82 : decode prog_10_method_16_code 82 = .ok (.iload_n 1, 1) := by decide +kernel
theorem d_Mo_rename_83 : decode prog_10_method_16_code 83 = .ok (.iload_n 2, 1) := by decide +kernel
theorem d_Mo_rename_84 : decode prog_10_method_16_code 84 = .ok (.invokevirtual 106, 3) := by decide +kernel
theorem d_Mo_rename_87 : decode prog_10_method_16_code 87 = .ok (.aload_n 0, 1) := by decide +kernel
theorem d_Mo_rename_88 : decode prog_10_method_16_code 88 = .ok (.iconst 1, 1) := by decide +kernel
theorem d_Mo_rename_89 : decode prog_10_method_16_code 89 = .ok (.iload 6, 2) := by decide +kernel
theorem d_Mo_rename_91 : decode prog_10_method_16_code 91 = .ok (.iload_n 3, 1) := by decide +kernel
theorem d_Mo_rename_92 : decode prog_10_method_16_code 92 = .ok (.iload 4, 2) := by decide +kernel
theorem d_Mo_rename_94 : decode prog_10_method_16_code 94 = .ok (.invokevirtual 110, 3) := by decide +kernel
theorem d_Mo_rename_97 : decode prog_10_method_16_code 97 = .ok (.return_, 1) := by decide +kernel
theorem d_Mo_delete_0 : decode prog_10_method_17_code 0 = .ok (.aload_n 0, 1) := by decide +kernel
theorem d_Mo_delete_1 : decode prog_10_method_17_code 1 = .ok (.iload_n 1, 1) := by decide +kernel
theorem d_Mo_delete_2 : decode prog_10_method_17_code 2 = .ok (.iload_n 2, 1) := by decide +kernel
theorem d_Mo_delete_3 : decode prog_10_method_17_code 3 = .ok (.invokestatic 99, 3) := by decide +kernel
theorem d_Mo_delete_6 : decode prog_10_method_17_code 6 = .ok (.ifCond .ne 7, 3) := by decide +kernel
theorem d_Mo_delete_9 : decode prog_10_method_17_code 9 = .ok (.iconst 1, 1) := by decide +kernel
theorem d_Mo_delete_10 : decode prog_10_method_17_code 10 = .ok (.goto 32, 3) := by decide +kernel
theorem d_Mo_delete_13 : decode prog_10_method_17_code 13 = .ok (.aload_n 0, 1) := by decide +kernel
theorem d_Mo_delete_14 : decode prog_10_method_17_code 14 = .ok (.iload_n 1, 1) := by decide +kernel
theorem d_Mo_delete_15 : decode prog_10_method_17_code 15 = .ok (.iload_n 2, 1) := by decide +kernel
theorem d_Mo_delete_16 : decode prog_10_method_17_code 16 = .ok (.invokevirtual 95, 3) := by decide +kernel
theorem d_Mo_delete_19 : decode prog_10_method_17_code 19 = .ok (.iconst (-1), 1) := by decide +kernel
theorem d_Mo_delete_20 : decode prog_10_method_17_code 20 = .ok (.if_icmp .ne 7, 3) := by decide +kernel
theorem d_Mo_delete_23 : decode prog_10_method_17_code 23 = .ok (.iconst 2, 1) := by decide +kernel
theorem d_Mo_delete_24 : decode prog_10_method_17_code 24 = .ok (.goto 18, 3) := by decide +kernel
theorem d_Mo_delete_27 : decode prog_10_method_17_code 27 = .ok (.aload_n 0, 1) := by decide +kernel
theorem d_Mo_delete_28 : decode prog_10_method_17_code 28 = .ok (.getfield 86, 3) := by decide +kernel
theorem d_Mo_delete_31 : decode prog_10_method_17_code 31 = .ok (.sipush 200, 3) := by decide +kernel
theorem d_Mo_delete_34 : decode prog_10_method_17_code 34 = .ok (.if_icmp .ne 7, 3) := by decide +kernel
theorem d_Mo_delete_37 : decode prog_10_method_17_code 37 = .ok (.iconst 3, 1) := by decide +kernel
theorem d_Mo_delete_38 : decode prog_10_method_17_code 38 = .ok (.goto 4, 3) := by decide +kernel
theorem d_Mo_delete_41 : decode prog_10_method_17_code 41 = .ok (.iconst 0, 1) := by decide +kernel
theorem d_Mo_delete_42 : decode prog_10_method_17_code 42 = .ok (.putfield 57, 3) := by decide +kernel
theorem d_Mo_delete_45 : decode prog_10_method_17_code 45 = .ok (.aload_n 0, 1) := by decide +kernel
theorem d_Mo_delete_46 : decode prog_10_method_17_code 46 = .ok (.getfield 57, 3) := by decide +kernel
theorem d_Mo_delete_49 : decode prog_10_method_17_code 49 = .ok (.ifCond .ne 23, 3) := by decide +kernel
theorem d_Mo_delete_52 : decode prog_10_method_17_code 52 = .ok (.aload_n 0, 1) := by decide +kernel
theorem d_Mo_delete_53 : decode prog_10_method_17_code 53 = .ok (.invokevirtual 102, 3) := by decide +kernel
theorem d_Mo_delete_56 : decode prog_10_method_17_code 56 = .ok (.istore_n 3, 1) := by decide +kernel
theorem d_Mo_delete_57 : decode prog_10_method_17_code 57 = .ok (.aload_n 0, 1) := by decide +kernel
theorem d_Mo_delete_58 : decode prog_10_method_17_code 58 = .ok (.iload_n 3, 1) := by decide +kernel
theorem d_Mo_delete_59 : decode prog_10_method_17_code 59 = .ok (.iload_n 1, 1) := by decide +kernel
theorem d_Mo_delete_60 : decode prog_10_method_17_code 60 = .ok (.iload_n 2, 1) := by decide +kernel
theorem d_Mo_delete_61 : decode prog_10_method_17_code 61 = .ok (.invokevirtual 106, 3) := by decide +kernel
theorem d_Mo_delete_64 : decode prog_10_method_17_code 64 = .ok (.aload_n 0, 1) := by decide +kernel
theorem d_Mo_delete_65 : decode prog_10_method_17_code 65 = .ok (.iconst 2, 1) := by decide +kernel
theorem d_Mo_delete_66 : decode prog_10_method_17_code 66 = .ok (.iload_n 3, 1) := by decide +kernel
theorem d_Mo_delete_67 : decode prog_10_method_17_code 67 = .ok (.iconst 0, 1) := by decide +kernel
theorem d_Mo_delete_68 : decode prog_10_method_17_code 68 = .ok (.iconst 0, 1) := by decide +kernel
theorem d_Mo_delete_69 : decode prog_10_method_17_code 69 = .ok (.invokevirtual 110, 3) := by decide +kernel
theorem d_Mo_delete_72 : decode prog_10_method_17_code 72 = .ok (.return_, 1) := by decide +kernel
theorem d_Mo_sync_0 : decode prog_10_method_19_code 0 = .ok (.aload_n 0, 1) := by decide +kernel
theorem d_Mo_sync_1 : decode prog_10_method_19_code 1 = .ok (.iconst 0, 1) := by decide +kernel
theorem d_Mo_sync_2 : decode prog_10_method_19_code 2 = .ok (.putfield 57, 3) := by decide +kernel
theorem d_Mo_sync_5 : decode prog_10_method_19_code 5 = .ok (.aload_n 0, 1) := by decide +kernel
theorem d_Mo_sync_6 : decode prog_10_method_19_code 6 = .ok (.getfield 86, 3) := by decide +kernel
theorem d_Mo_sync_9 : decode prog_10_method_19_code 9 = .ok (.istore_n 1, 1) := by decide +kernel
theorem d_Mo_sync_10 : decode prog_10_method_19_code 10 = .ok (.aload_n 0, 1) := by decide +kernel
theorem d_Mo_sync_11 : decode prog_10_method_19_code 11 = .ok (.invokevirtual 117, 3) := by decide +kernel
theorem d_Mo_sync_14 : decode prog_10_method_19_code 14 = .ok (.aload_n 0, 1) := by decide +kernel
theorem d_Mo_sync_15 : decode prog_10_method_19_code 15 = .ok (.dup, 1) := by decide +kernel
theorem d_Mo_sync_16 : decode prog_10_method_19_code 16 = .ok (.getfield 89, 3) := by decide +kernel
theorem d_Mo_sync_19 : decode prog_10_method_19_code 19 = .ok (.iconst 1, 1) := by decide +kernel
theorem d_Mo_sync_20 : decode prog_10_method_19_code 20 = .ok (.iadd, 1) := by decide +kernel
theorem d_Mo_sync_21 : decode prog_10_method_19_code 21 = .ok (.putfield 89, 3) := by decide +kernel
theorem d_Mo_sync_24 : decode prog_10_method_19_code 24 = .ok (.iload_n 1, 1) := by decide +kernel
theorem d_Mo_sync_25 : decode prog_10_method_19_code 25 = .ok (.ireturn, 1) := by decide +kernel
theorem d_Mo_keep_0 : decode prog_10_method_18_code 0 = .ok (.iconst 0, 1) := by decide +kernel
theorem d_Mo_keep_1 : decode prog_10_method_18_code 1 = .ok (.istore_n 1, 1) := by decide +kernel
theorem d_Mo_keep_2 : decode prog_10_method_18_code 2 = .ok (.iload_n 1, 1) := by decide +kernel
theorem d_Mo_keep_3 : decode prog_10_method_18_code 3 = .ok (.aload_n 0, 1) := by decide +kernel
theorem d_Mo_keep_4 : decode prog_10_method_18_code 4 = .ok (.getfield 67, 3) := by decide +kernel
theorem d_Mo_keep_7 : decode prog_10_method_18_code 7 = .ok (.if_icmp .ge 18, 3) := by decide +kernel
theorem d_Mo_keep_10 : decode prog_10_method_18_code 10 = .ok (.aload_n 0, 1) := by decide +kernel
theorem d_Mo_keep_11 : decode prog_10_method_18_code 11 = .ok (.iload_n 1, 1) := by decide +kernel
theorem d_Mo_keep_12 : decode prog_10_method_18_code 12 = .ok (.bipush 60, 2) := by decide +kernel
theorem d_Mo_keep_14 : decode prog_10_method_18_code 14 = .ok (.iload_n 1, 1) := by decide +kernel
theorem d_Mo_keep_15 : decode prog_10_method_18_code 15 = .ok (.iadd, 1) := by decide +kernel
theorem d_Mo_keep_16 : decode prog_10_method_18_code 16 = .ok (.invokevirtual 74, 3) := by decide +kernel
theorem d_Mo_keep_19 : decode prog_10_method_18_code 19 = .ok (.iinc 1 1, 3) := by decide +kernel
theorem d_Mo_keep_22 : decode prog_10_method_18_code 22 = .ok (.goto (-20), 3) := by decide +kernel
theorem d_Mo_keep_25 : decode prog_10_method_18_code 25 = .ok (.aload_n 0, 1) := by decide +kernel
theorem d_Mo_keep_26 : decode prog_10_method_18_code 26 = .ok (.aload_n 0, 1) := by decide +kernel
theorem d_Mo_keep_27 : decode prog_10_method_18_code 27 = .ok (.getfield 67, 3) := by decide +kernel
theorem d_Mo_keep_30 : decode prog_10_method_18_code 30 = .ok (.putfield 114, 3) := by decide +kernel
theorem d_Mo_keep_33 : decode prog_10_method_18_code 33 = .ok (.aload_n 0, 1) := by decide +kernel
theorem d_Mo_keep_34 : decode prog_10_method_18_code 34 = .ok (.iconst 0, 1) := by decide +kernel
theorem d_Mo_keep_35 : decode prog_10_method_18_code 35 = .ok (.putfield 86, 3) := by decide +kernel
theorem d_Mo_keep_38 : decode prog_10_method_18_code 38 = .ok (.return_, 1) := by decide +kernel
theorem d_Mo_breakOff_0 : decode prog_10_method_20_code 0 = .ok (.aload_n 0, 1) := by decide +kernel
theorem d_Mo_breakOff_1 : decode prog_10_method_20_code 1 = .ok (.iload_n 1, 1) := by decide +kernel
theorem d_Mo_breakOff_2 : decode prog_10_method_20_code 2 = .ok (.ifCond .ge 7, 3) := by decide +kernel
theorem d_Mo_breakOff_5 : decode prog_10_method_20_code 5 = .ok (.iconst 1, 1) := by decide +kernel
theorem d_Mo_breakOff_6 : decode prog_10_method_20_code 6 = .ok (.goto 4, 3) := by decide +kernel
theorem d_Mo_breakOff_9 : decode prog_10_method_20_code 9 = .ok (.iconst 0, 1) := by decide +kernel
theorem d_Mo_breakOff_10 : decode prog_10_method_20_code 10 = .ok (.putfield 57, 3) := by decide +kernel
theorem d_Mo_breakOff_13 : decode prog_10_method_20_code 13 = .ok (.aload_n 0, 1) := by decide +kernel
theorem d_Mo_breakOff_14 : decode prog_10_method_20_code 14 = .ok (.getfield 57, 3) := by decide +kernel
theorem d_Mo_breakOff_17 : decode prog_10_method_20_code 17 = .ok (.ifCond .le 5, 3) := by decide +kernel
theorem d_Mo_breakOff_20 : decode prog_10_method_20_code 20 = .ok (.iconst 0, 1) := by decide +kernel
theorem d_Mo_breakOff_21 : decode prog_10_method_20_code 21 = .ok (.ireturn, 1) := by decide +kernel
theorem d_Mo_breakOff_22 : decode prog_10_method_20_code 22 = .ok (.iload_n 1, 1) := by decide +kernel
theorem d_Mo_breakOff_23 : decode prog_10_method_20_code 23 = .ok (.aload_n 0, 1) := by decide +kernel
theorem d_Mo_breakOff_24 : decode prog_10_method_20_code 24 = .ok (.getfield 86, 3) := by decide +kernel
theorem d_Mo_breakOff_27 : decode prog_10_method_20_code 27 = .ok (.if_icmp .ge 7, 3) := by decide +kernel
theorem d_Mo_breakOff_30 : decode prog_10_method_20_code 30 = .ok (.iload_n 1, 1) := by decide +kernel
theorem d_Mo_breakOff_31 : decode prog_10_method_20_code 31 = .ok (.goto 7, 3) := by decide +kernel
theorem d_Mo_breakOff_34 : decode prog_10_method_20_code 34 = .ok (.aload_n 0, 1) := by decide +kernel
theorem d_Mo_breakOff_35 : decode prog_10_method_20_code 35 = .ok (.getfield 86, 3) := by decide +kernel
theorem d_Mo_breakOff_38 : decode prog_10_method_20_code 38 = .ok (.istore_n 2, 1) := by decide +kernel
theorem d_Mo_breakOff_39 : decode prog_10_method_20_code 39 = .ok (.iconst 0, 1) := by decide +kernel
theorem d_Mo_breakOff_40 : decode prog_10_method_20_code 40 = .ok (.istore_n 3, 1) := by decide +kernel
theorem d_Mo_breakOff_41 : decode prog_10_method_20_code 41 = .ok (.iload_n 3, 1) := by decide +kernel
theorem d_Mo_breakOff_42 : decode prog_10_method_20_code 42 = .ok (.aload_n 0, 1) := by decide +kernel
theorem d_Mo_breakOff_43 : decode prog_10_method_20_code 43 = .ok (.getfield 114, 3) := by decide +kernel
theorem d_Mo_breakOff_46 : decode prog_10_method_20_code 46 = .ok (.if_icmp .ge 18, 3) := by decide +kernel
theorem d_Mo_breakOff_49 : decode prog_10_method_20_code 49 = .ok (.aload_n 0, 1) := by decide +kernel
theorem d_Mo_breakOff_50 : decode prog_10_method_20_code 50 = .ok (.bipush 60, 2) := by decide +kernel
theorem d_Mo_breakOff_52 : decode prog_10_method_20_code 52 = .ok (.iload_n 3, 1) := by decide +kernel
theorem d_Mo_breakOff_53 : decode prog_10_method_20_code 53 = .ok (.iadd, 1) := by decide +kernel
theorem d_Mo_breakOff_54 : decode prog_10_method_20_code 54 = .ok (.iload_n 3, 1) := by decide +kernel
theorem d_Mo_breakOff_55 : decode prog_10_method_20_code 55 = .ok (.invokevirtual 74, 3) := by decide +kernel
theorem d_Mo_breakOff_58 : decode prog_10_method_20_code 58 = .ok (.iinc 3 1, 3) := by decide +kernel
theorem d_Mo_breakOff_61 : decode prog_10_method_20_code 61 = .ok (.goto (-20), 3) := by decide +kernel
theorem d_Mo_breakOff_64 : decode prog_10_method_20_code 64 = .ok (.aload_n 0, 1) := by decide +kernel
theorem d_Mo_breakOff_65 : decode prog_10_method_20_code 65 = .ok (.aload_n 0, 1) := by decide +kernel
theorem d_Mo_breakOff_66 : decode prog_10_method_20_code 66 = .ok (.getfield 114, 3) := by decide +kernel
theorem d_Mo_breakOff_69 : decode prog_10_method_20_code 69 = .ok (.putfield 67, 3) := by decide +kernel
theorem d_Mo_breakOff_72 : decode prog_10_method_20_code 72 = .ok (.iconst 0, 1) := by decide +kernel
theorem d_Mo_breakOff_73 : decode prog_10_method_20_code 73 = .ok (.istore_n 3, 1) := by decide +kernel
theorem d_Mo_breakOff_74 : decode prog_10_method_20_code 74 = .ok (.iload_n 3, 1) := by decide +kernel
theorem d_Mo_breakOff_75 : decode prog_10_method_20_code 75 = .ok (.iload_n 2, 1) := by decide +kernel
theorem d_Mo_breakOff_76 : decode prog_10_method_20_code 76 = .ok (.if_icmp .ge 14, 3) := by decide +kernel
theorem d_Mo_breakOff_79 : decode prog_10_method_20_code 79 = .ok (.aload_n 0, 1) := by decide +kernel
theorem d_Mo_breakOff_80 : decode prog_10_method_20_code 80 = .ok (.iload_n 3, 1) := by decide +kernel
theorem d_Mo_breakOff_81 : decode prog_10_method_20_code 81 = .ok (.invokevirtual 92, 3) := by decide +kernel
theorem d_Mo_breakOff_84 : decode prog_10_method_20_code 84 = .ok (.iinc 3 1, 3) := by decide +kernel
theorem d_Mo_breakOff_87 : decode prog_10_method_20_code 87 = .ok (.goto (-13), 3) := by decide +kernel
theorem d_Mo_breakOff_90 : decode prog_10_method_20_code 90 = .ok (.aload_n 0, 1) := by decide +kernel
theorem d_Mo_breakOff_91 : decode prog_10_method_20_code 91 = .ok (.invokevirtual 117, 3) := by decide +kernel
theorem d_Mo_breakOff_94 : decode prog_10_method_20_code 94 = .ok (.iload_n 2, 1) := by decide +kernel
theorem d_Mo_breakOff_95 : decode prog_10_method_20_code 95 = .ok (.ireturn, 1) := by decide +kernel
theorem d_Mo_size_0 : decode prog_10_method_21_code 0 = .ok (.aload_n 0, 1) := by decide +kernel
theorem d_Mo_size_1 : decode prog_10_method_21_code 1 = .ok (.iconst 0, 1) := by decide +kernel
theorem d_Mo_size_2 : decode prog_10_method_21_code 2 = .ok (.putfield 57, 3) := by decide +kernel
theorem d_Mo_size_5 : decode prog_10_method_21_code 5 = .ok (.aload_n 0, 1) := by decide +kernel
theorem d_Mo_size_6 : decode prog_10_method_21_code 6 = .ok (.iload_n 1, 1) := by decide +kernel
theorem d_Mo_size_7 : decode prog_10_method_21_code 7 = .ok (.iload_n 2, 1) := by decide +kernel
theorem d_Mo_size_8 : decode prog_10_method_21_code 8 = .ok (.invokevirtual 95, 3) := by decide +kernel
theorem d_Mo_size_11 : decode prog_10_method_21_code 11 = .ok (.istore_n 3, 1) := by decide +kernel
theorem d_Mo_size_12 : decode prog_10_method_21_code 12 = .ok (.iload_n 3, 1) := by decide +kernel
theorem d_Mo_size_13 : decode prog_10_method_21_code 13 = .ok (.iconst (-1), 1) := by decide +kernel
theorem d_Mo_size_14 : decode prog_10_method_21_code 14 = .ok (.if_icmp .ne 7, 3) := by decide +kernel
theorem d_Mo_size_17 : decode prog_10_method_21_code 17 = .ok (.iconst (-1), 1) := by decide +kernel
theorem d_Mo_size_18 : decode prog_10_method_21_code 18 = .ok (.goto 9, 3) := by decide +kernel
theorem d_Mo_size_21 : decode prog_10_method_21_code 21 = .ok (.aload_n 0, 1) := by decide +kernel
theorem d_Mo_size_22 : decode prog_10_method_21_code 22 = .ok (.getfield 26, 3) := by decide +kernel
theorem d_Mo_size_25 : decode prog_10_method_21_code 25 = .ok (.iload_n 3, 1) := by decide +kernel
theorem d_Mo_size_26 : decode prog_10_method_21_code 26 = .ok (.iaload, 1) := by decide +kernel
theorem d_Mo_size_27 : decode prog_10_method_21_code 27 = .ok (.ireturn, 1) := by decide +kernel
theorem d_Mo_at_0 : decode prog_10_method_22_code 0 = .ok (.aload_n 0, 1) := by decide +kernel
theorem d_Mo_at_1 : decode prog_10_method_22_code 1 = .ok (.iconst 0, 1) := by decide +kernel
theorem d_Mo_at_2 : decode prog_10_method_22_code 2 = .ok (.putfield 57, 3) := by decide +kernel
theorem d_Mo_at_5 : decode prog_10_method_22_code 5 = .ok (.aload_n 0, 1) := by decide +kernel
theorem d_Mo_at_6 : decode prog_10_method_22_code 6 = .ok (.iload_n 1, 1) := by decide +kernel
theorem d_Mo_at_7 : decode prog_10_method_22_code 7 = .ok (.iload_n 2, 1) := by decide +kernel
theorem d_Mo_at_8 : decode prog_10_method_22_code 8 = .ok (.invokevirtual 95, 3) := by decide +kernel
theorem d_Mo_at_11 : decode prog_10_method_22_code 11 = .ok (.istore 4, 2) := by decide +kernel
theorem d_Mo_at_13 : decode prog_10_method_22_code 13 = .ok (.iload 4, 2) := by decide +kernel
theorem d_Mo_at_15 : decode prog_10_method_22_code 15 = .ok (.iconst (-1), 1) := by decide +kernel
theorem d_Mo_at_16 : decode prog_10_method_22_code 16 = .ok (.if_icmp .eq 18, 3) := by decide +kernel
theorem d_Mo_at_19 : decode prog_10_method_22_code 19 = .ok (.iload_n 3, 1) := by decide +kernel
theorem d_Mo_at_20 : decode prog_10_method_22_code 20 = .ok (.ifCond .lt 14, 3) := by decide +kernel
theorem d_Mo_at_23 : decode prog_10_method_22_code 23 = .ok (.iload_n 3, 1) := by decide +kernel
theorem d_Mo_at_24 : decode prog_10_method_22_code 24 = .ok (.aload_n 0, 1) := by decide +kernel
theorem d_Mo_at_25 : decode prog_10_method_22_code 25 = .ok (.getfield 26, 3) := by decide +kernel
theorem d_Mo_at_28 : decode prog_10_method_22_code 28 = .ok (.iload 4, 2) := by decide +kernel
theorem d_Mo_at_30 : decode prog_10_method_22_code 30 = .ok (.iaload, 1) := by decide +kernel
theorem d_Mo_at_31 : decode prog_10_method_22_code 31 = .ok (.if_icmp .lt 7, 3) := by decide +kernel
theorem d_Mo_at_34 : decode prog_10_method_22_code 34 = .ok (.iconst (-1), 1) := by decide +kernel
theorem d_Mo_at_35 : decode prog_10_method_22_code 35 = .ok (.goto 20, 3) := by decide +kernel
theorem d_Mo_at_38 : decode prog_10_method_22_code 38 = .ok (.aload_n 0, 1) := by decide +kernel
theorem d_Mo_at_39 : decode prog_10_method_22_code 39 = .ok (.getfield 33, 3) := by decide +kernel
theorem d_Mo_at_42 : decode prog_10_method_22_code 42 = .ok (.sipush 400, 3) := by decide +kernel
theorem d_Mo_at_45 : decode prog_10_method_22_code 45 = .ok (.iload 4, 2) := by decide +kernel
theorem d_Mo_at_47 : decode prog_10_method_22_code 47 = .ok (.imul, 1) := by decide +kernel
theorem d_Mo_at_48 : decode prog_10_method_22_code 48 = .ok (.iload_n 3, 1) := by decide +kernel
theorem d_Mo_at_49 : decode prog_10_method_22_code 49 = .ok (.iadd, 1) := by decide +kernel
theorem d_Mo_at_50 : decode prog_10_method_22_code 50 = .ok (.baload, 1) := by decide +kernel
theorem d_Mo_at_51 : decode prog_10_method_22_code 51 = .ok (.sipush 255, 3) := by decide +kernel
theorem d_Mo_at_54 : decode prog_10_method_22_code 54 = .ok (.iand, 1) := by decide +kernel
theorem d_Mo_at_55 : decode prog_10_method_22_code 55 = .ok (.ireturn, 1) := by decide +kernel
theorem d_Mo_list_0 : decode prog_10_method_25_code 0 = .ok (.aload_n 0, 1) := by decide +kernel
theorem d_Mo_list_1 : decode prog_10_method_25_code 1 = .ok (.iconst 0, 1) := by decide +kernel
theorem d_Mo_list_2 : decode prog_10_method_25_code 2 = .ok (.putfield 57, 3) := by decide +kernel
theorem d_Mo_list_5 : decode prog_10_method_25_code 5 = .ok (.iload_n 1, 1) := by decide +kernel
theorem d_Mo_list_6 : decode prog_10_method_25_code 6 = .ok (.ifCond .lt 9, 3) := by decide +kernel
theorem d_Mo_list_9 : decode prog_10_method_25_code 9 = .ok (.iload_n 1, 1) := by decide +kernel
theorem d_Mo_list_10 : decode prog_10_method_25_code 10 = .ok (.bipush 7, 2) := by decide +kernel
theorem d_Mo_list_12 : decode prog_10_method_25_code 12 = .ok (.if_icmp .lt 5, 3) := by decide +kernel
theorem d_Mo_list_15 : decode prog_10_method_25_code 15 = .ok (.iconst (-1), 1) := by decide +kernel
theorem d_Mo_list_16 : decode prog_10_method_25_code 16 = .ok (.ireturn, 1) := by decide +kernel
theorem d_Mo_list_17 : decode prog_10_method_25_code 17 = .ok (.aload_n 0, 1) := by decide +kernel
theorem d_Mo_list_18 : decode prog_10_method_25_code 18 = .ok (.iconst 0, 1) := by decide +kernel
theorem d_Mo_list_19 : decode prog_10_method_25_code 19 = .ok (.putfield 123, 3) := by decide +kernel
theorem d_Mo_list_22 : decode prog_10_method_25_code 22 = .ok (.iconst 0, 1) := by decide +kernel
theorem d_Mo_list_23 : decode prog_10_method_25_code 23 = .ok (.istore_n 2, 1) := by decide +kernel
theorem d_Mo_list_24 : decode prog_10_method_25_code 24 = .ok (.iload_n 2, 1) := by decide +kernel
theorem d_Mo_list_25 : decode prog_10_method_25_code 25 = .ok (.aload_n 0, 1) := by decide +kernel
theorem d_Mo_list_26 : decode prog_10_method_25_code 26 = .ok (.getfield 67, 3) := by decide +kernel
theorem d_Mo_list_29 : decode prog_10_method_25_code 29 = .ok (.if_icmp .ge 81, 3) := by decide +kernel
theorem d_Mo_list_32 : decode prog_10_method_25_code 32 = .ok (.aload_n 0, 1) := by decide +kernel
theorem d_Mo_list_33 : decode prog_10_method_25_code 33 = .ok (.getfield 16, 3) := by decide +kernel
theorem d_Mo_list_36 : decode prog_10_method_25_code 36 = .ok (.iload_n 2, 1) := by decide +kernel
theorem d_Mo_list_37 : decode prog_10_method_25_code 37 = .ok (.iaload, 1) := by decide +kernel
theorem d_Mo_list_38 : decode prog_10_method_25_code 38 = .ok (.iload_n 1, 1) := by decide +kernel
theorem d_Mo_list_39 : decode prog_10_method_25_code 39 = .ok (.if_icmp .ne 65, 3) := by decide +kernel
theorem d_Mo_list_42 : decode prog_10_method_25_code 42 = .ok (.aload_n 0, 1) := by decide +kernel
theorem d_Mo_list_43 : decode prog_10_method_25_code 43 = .ok (.getfield 123, 3) := by decide +kernel
theorem d_Mo_list_46 : decode prog_10_method_25_code 46 = .ok (.istore_n 3, 1) := by decide +kernel
theorem d_Mo_list_47 : decode prog_10_method_25_code 47 = .ok (.iload_n 3, 1) := by decide +kernel
theorem d_Mo_list_48 : decode prog_10_method_25_code 48 = .ok (.ifCond .le 39, 3) := by decide +kernel
theorem d_Mo_list_51 : decode prog_10_method_25_code 51 = .ok (.aload_n 0, 1) := by decide +kernel
theorem d_Mo_list_52 : decode prog_10_method_25_code 52 = .ok (.iload_n 2, 1) := by decide +kernel
theorem d_Mo_list_53 : decode prog_10_method_25_code 53 = .ok (.aload_n 0, 1) := by decide +kernel
theorem d_Mo_list_54 : decode prog_10_method_25_code 54 = .ok (.getfield 51, 3) := by decide +kernel
theorem d_Mo_list_57 : decode prog_10_method_25_code 57 = .ok (.iload_n 3, 1) := by decide +kernel
theorem d_Mo_list_58 : decode prog_10_method_25_code 58 = .ok (.iconst 1, 1) := by decide +kernel
theorem d_Mo_list_59 : decode prog_10_method_25_code 59 = .ok (.isub, 1) := by decide +kernel
theorem d_Mo_list_60 : decode prog_10_method_25_code 60 = .ok (.iaload, 1) := by decide +kernel
theorem d_Mo_list_61 : decode prog_10_method_25_code 61 = .ok (.invokevirtual 126, 3) := by decide +kernel
theorem d_Mo_list_64 : decode prog_10_method_25_code 64 = .ok (.ifCond .eq 23, 3) := by decide +kernel
theorem d_Mo_list_67 : decode prog_10_method_25_code 67 = .ok (.aload_n 0, 1) := by decide +kernel
theorem d_Mo_list_68 : decode prog_10_method_25_code 68 = .ok (.getfield 51, 3) := by decide +kernel
theorem d_Mo_list_71 : decode prog_10_method_25_code 71 = .ok (.iload_n 3, 1) := by decide +kernel
theorem d_Mo_list_72 : decode prog_10_method_25_code 72 = .ok (.aload_n 0, 1) := by decide +kernel
theorem d_Mo_list_73 : decode prog_10_method_25_code 73 = .ok (.getfield 51, 3) := by decide +kernel
theorem d_Mo_list_76 : decode prog_10_method_25_code 76 = .ok (.iload_n 3, 1) := by decide +kernel
theorem d_Mo_list_77 : decode prog_10_method_25_code 77 = .ok (.iconst 1, 1) := by decide +kernel
theorem d_Mo_list_78 : decode prog_10_method_25_code 78 = .ok (.isub, 1) := by decide +kernel
theorem d_Mo_list_79 : decode prog_10_method_25_code 79 = .ok (.iaload, 1) := by decide +kernel
theorem d_Mo_list_80 : decode prog_10_method_25_code 80 = .ok (.iastore, 1) := by decide +kernel
theorem d_Mo_list_81 : decode prog_10_method_25_code 81 = .ok (.iinc 3 (-1), 3) := by decide +kernel
theorem d_Mo_list_84 : decode prog_10_method_25_code 84 = .ok (.goto (-37), 3) := by decide +kernel
theorem d_Mo_list_87 : decode prog_10_method_25_code 87 = .ok (.aload_n 0, 1) := by decide +kernel
theorem d_Mo_list_88 : decode prog_10_method_25_code 88 = .ok (.getfield 51, 3) := by decide +kernel
theorem d_Mo_list_91 : decode prog_10_method_25_code 91 = .ok (.iload_n 3, 1) := by decide +kernel
theorem d_Mo_list_92 : decode prog_10_method_25_code 92 = .ok (.iload_n 2, 1) := by decide +kernel
theorem d_Mo_list_93 : decode prog_10_method_25_code 93 = .ok (.iastore, 1) := by decide +kernel
theorem d_Mo_list_94 : decode prog_10_method_25_code 94 = .ok (.aload_n 0, 1) := by decide +kernel
theorem d_Mo_list_95 : decode prog_10_method_25_code 95 = .ok (.dup, 1) := by decide +kernel
theorem d_Mo_list_96 : decode prog_10_method_25_code 96 = .ok (.getfield 123, 3) := by decide +kernel
theorem d_Mo_list_99 : decode prog_10_method_25_code 99 = .ok (.iconst 1, 1) := by decide +kernel
theorem d_Mo_list_100 : decode prog_10_method_25_code 100 = .ok (.iadd, 1) := by decide +kernel
theorem d_Mo_list_101 : decode prog_10_method_25_code 101 = .ok (.putfield 123, 3) := by decide +kernel
theorem d_Mo_list_104 : decode prog_10_method_25_code 104 = .ok (.iinc 2 1, 3) := by decide +kernel
theorem d_Mo_list_107 : decode prog_10_method_25_code 107 = .ok (.goto (-83), 3) := by decide +kernel
theorem d_Mo_list_110 : decode prog_10_method_25_code 110 = .ok (.iconst 0, 1) := by decide +kernel
theorem d_Mo_list_111 : decode prog_10_method_25_code 111 = .ok (.istore_n 2, 1) := by decide +kernel
theorem d_Mo_list_112 : decode prog_10_method_25_code 112 = .ok (.iload_n 2, 1) := by decide +kernel
theorem d_Mo_list_113 : decode prog_10_method_25_code 113 = .ok (.aload_n 0, 1) := by decide +kernel
theorem d_Mo_list_114 : decode prog_10_method_25_code 114 = .ok (.getfield 123, 3) := by decide +kernel
theorem d_Mo_list_117 : decode prog_10_method_25_code 117 = .ok (.if_icmp .ge 84, 3) := by decide +kernel
theorem d_Mo_list_120 : decode prog_10_method_25_code 120 = .ok (.aload_n 0, 1) := by decide +kernel
theorem d_Mo_list_121 : decode prog_10_method_25_code 121 = .ok (.getfield 51, 3) := by decide +kernel
theorem d_Mo_list_124 : decode prog_10_method_25_code 124 = .ok (.iload_n 2, 1) := by decide +kernel
theorem d_Mo_list_125 : decode prog_10_method_25_code 125 = .ok (.iaload, 1) := by decide +kernel
theorem d_Mo_list_126 : decode prog_10_method_25_code 126 = .ok (.istore_n 3, 1) := by decide +kernel
theorem d_Mo_list_127 : decode prog_10_method_25_code 127 = .ok (.aload_n 0, 1) := by decide +kernel
theorem d_Mo_list_128 : decode prog_10_method_25_code 128 = .ok (.getfield 45, 3) := by decide +kernel
theorem d_Mo_list_131 : decode prog_10_method_25_code 131 = .ok (.iload_n 2, 1) := by decide +kernel
theorem d_Mo_list_132 : decode prog_10_method_25_code 132 = .ok (.aload_n 0, 1) := by decide +kernel
theorem d_Mo_list_133 : decode prog_10_method_25_code 133 = .ok (.getfield 20, 3) := by decide +kernel
theorem d_Mo_list_136 : decode prog_10_method_25_code 136 = .ok (.iload_n 3, 1) := by decide +kernel
theorem d_Mo_list_137 : decode prog_10_method_25_code 137 = .ok (.iaload, 1) := by decide +kernel
theorem d_Mo_list_138 : decode prog_10_method_25_code 138 = .ok (.iastore, 1) := by decide +kernel
theorem d_Mo_list_139 : decode prog_10_method_25_code 139 = .ok (.aload_n 0, 1) := by decide +kernel
theorem d_Mo_list_140 : decode prog_10_method_25_code 140 = .ok (.getfield 48, 3) := by decide +kernel
theorem d_Mo_list_143 : decode prog_10_method_25_code 143 = .ok (.iload_n 2, 1) := by decide +kernel
theorem d_Mo_list_144 : decode prog_10_method_25_code 144 = .ok (.aload_n 0, 1) := by decide +kernel
theorem d_Mo_list_145 : decode prog_10_method_25_code 145 = .ok (.getfield 23, 3) := by decide +kernel
theorem d_Mo_list_148 : decode prog_10_method_25_code 148 = .ok (.iload_n 3, 1) := by decide +kernel
theorem d_Mo_list_149 : decode prog_10_method_25_code 149 = .ok (.iaload, 1) := by decide +kernel
theorem d_Mo_list_150 : decode prog_10_method_25_code 150 = .ok (.iastore, 1) := by decide +kernel
theorem d_Mo_list_151 : decode prog_10_method_25_code 151 = .ok (.iconst 0, 1) := by decide +kernel
theorem d_Mo_list_152 : decode prog_10_method_25_code 152 = .ok (.istore 4, 2) := by decide +kernel
theorem d_Mo_list_154 : decode prog_10_method_25_code 154 = .ok (.iload 4, 2) := by decide +kernel
theorem d_Mo_list_156 : decode prog_10_method_25_code 156 = .ok (.aload_n 0, 1) := by decide +kernel
theorem d_Mo_list_157 : decode prog_10_method_25_code 157 = .ok (.getfield 23, 3) := by decide +kernel
theorem d_Mo_list_160 : decode prog_10_method_25_code 160 = .ok (.iload_n 3, 1) := by decide +kernel
theorem d_Mo_list_161 : decode prog_10_method_25_code 161 = .ok (.iaload, 1) := by decide +kernel
theorem d_Mo_list_162 : decode prog_10_method_25_code 162 = .ok (.if_icmp .ge 33, 3) := by decide +kernel
theorem d_Mo_list_165 : decode prog_10_method_25_code 165 = .ok (.aload_n 0, 1) := by decide +kernel
theorem d_Mo_list_166 : decode prog_10_method_25_code 166 = .ok (.getfield 54, 3) := by decide +kernel
theorem d_Mo_list_169 : decode prog_10_method_25_code 169 = .ok (.bipush 100, 2) := by decide +kernel
theorem d_Mo_list_171 : decode prog_10_method_25_code 171 = .ok (.iload_n 2, 1) := by decide +kernel
theorem d_Mo_list_172 : decode prog_10_method_25_code 172 = .ok (.imul, 1) := by decide +kernel
theorem d_Mo_list_173 : decode prog_10_method_25_code 173 = .ok (.iload 4, 2) := by decide +kernel
theorem d_Mo_list_175 : decode prog_10_method_25_code 175 = .ok (.iadd, 1) := by decide +kernel
theorem d_Mo_list_176 : decode prog_10_method_25_code 176 = .ok (.aload_n 0, 1) := by decide +kernel
theorem d_Mo_list_177 : decode prog_10_method_25_code 177 = .ok (.getfield 29, 3) := by decide +kernel
theorem d_Mo_list_180 : decode prog_10_method_25_code 180 = .ok (.bipush 100, 2) := by decide +kernel
theorem d_Mo_list_182 : decode prog_10_method_25_code 182 = .ok (.iload_n 3, 1) := by decide +kernel
theorem d_Mo_list_183 : decode prog_10_method_25_code 183 = .ok (.imul, 1) := by decide +kernel
theorem d_Mo_list_184 : decode prog_10_method_25_code 184 = .ok (.iload 4, 2) := by decide +kernel
theorem d_Mo_list_186 : decode prog_10_method_25_code 186 = .ok (.iadd, 1) := by decide +kernel
theorem d_Mo_list_187 : decode prog_10_method_25_code 187 = .ok (.baload, 1) := by decide +kernel
theorem d_Mo_list_188 : decode prog_10_method_25_code 188 = .ok (.bastore, 1) := by decide +kernel
theorem d_Mo_list_189 : decode prog_10_method_25_code 189 = .ok (.iinc 4 1, 3) := by decide +kernel
theorem d_Mo_list_192 : decode prog_10_method_25_code 192 = .ok (.goto (-38), 3) := by decide +kernel
theorem d_Mo_list_195 : decode prog_10_method_25_code 195 = .ok (.iinc 2 1, 3) := by decide +kernel
theorem d_Mo_list_198 : decode prog_10_method_25_code 198 = .ok (.goto (-86), 3) := by decide +kernel
theorem d_Mo_list_201 : decode prog_10_method_25_code 201 = .ok (.aload_n 0, 1) := by decide +kernel
theorem d_Mo_list_202 : decode prog_10_method_25_code 202 = .ok (.getfield 123, 3) := by decide +kernel
theorem d_Mo_list_205 : decode prog_10_method_25_code 205 = .ok (.ireturn, 1) := by decide +kernel
theorem d_Mo_isAhead_0 : decode prog_10_method_24_code 0 = .ok (.aload_n 0, 1) := by decide +kernel
theorem d_Mo_isAhead_1 : decode prog_10_method_24_code 1 = .ok (.getfield 20, 3) := by decide +kernel
theorem d_Mo_isAhead_4 : decode prog_10_method_24_code 4 = .ok (.iload_n 1, 1) := by decide +kernel
theorem d_Mo_isAhead_5 : decode prog_10_method_24_code 5 = .ok (.iaload, 1) := by decide +kernel
theorem d_Mo_isAhead_6 : decode prog_10_method_24_code 6 = .ok (.aload_n 0, 1) := by decide +kernel
theorem d_Mo_isAhead_7 : decode prog_10_method_24_code 7 = .ok (.getfield 20, 3) := by decide +kernel
theorem d_Mo_isAhead_10 : decode prog_10_method_24_code 10 = .ok (.iload_n 2, 1) := by decide +kernel
theorem d_Mo_isAhead_11 : decode prog_10_method_24_code 11 = .ok (.iaload, 1) := by decide +kernel
theorem d_Mo_isAhead_12 : decode prog_10_method_24_code 12 = .ok (.if_icmp .eq 24, 3) := by decide +kernel
theorem d_Mo_isAhead_15 : decode prog_10_method_24_code 15 = .ok (.aload_n 0, 1) := by decide +kernel
theorem d_Mo_isAhead_16 : decode prog_10_method_24_code 16 = .ok (.getfield 20, 3) := by decide +kernel
theorem d_Mo_isAhead_19 : decode prog_10_method_24_code 19 = .ok (.iload_n 1, 1) := by decide +kernel
theorem d_Mo_isAhead_20 : decode prog_10_method_24_code 20 = .ok (.iaload, 1) := by decide +kernel
theorem d_Mo_isAhead_21 : decode prog_10_method_24_code 21 = .ok (.aload_n 0, 1) := by decide +kernel
theorem d_Mo_isAhead_22 : decode prog_10_method_24_code 22 = .ok (.getfield 20, 3) := by decide +kernel
theorem d_Mo_isAhead_25 : decode prog_10_method_24_code 25 = .ok (.iload_n 2, 1) := by decide +kernel
theorem d_Mo_isAhead_26 : decode prog_10_method_24_code 26 = .ok (.iaload, 1) := by decide +kernel
theorem d_Mo_isAhead_27 : decode prog_10_method_24_code 27 = .ok (.if_icmp .ge 7, 3) := by decide +kernel
theorem d_Mo_isAhead_30 : decode prog_10_method_24_code 30 = .ok (.iconst 1, 1) := by decide +kernel
theorem d_Mo_isAhead_31 : decode prog_10_method_24_code 31 = .ok (.goto 4, 3) := by decide +kernel
theorem d_Mo_isAhead_34 : decode prog_10_method_24_code 34 = .ok (.iconst 0, 1) := by decide +kernel
theorem d_Mo_isAhead_35 : decode prog_10_method_24_code 35 = .ok (.ireturn, 1) := by decide +kernel
theorem d_Mo_isAhead_36 : decode prog_10_method_24_code 36 = .ok (.iconst 0, 1) := by decide +kernel
theorem d_Mo_isAhead_37 : decode prog_10_method_24_code 37 = .ok (.istore_n 3, 1) := by decide +kernel
theorem d_Mo_isAhead_38 : decode prog_10_method_24_code 38 = .ok (.iload_n 3, 1) := by decide +kernel
theorem d_Mo_isAhead_39 : decode prog_10_method_24_code 39 = .ok (.bipush 100, 2) := by decide +kernel
theorem d_Mo_isAhead_41 : decode prog_10_method_24_code 41 = .ok (.if_icmp .ge 45, 3) := by decide +kernel
theorem d_Mo_isAhead_44 : decode prog_10_method_24_code 44 = .ok (.aload_n 0, 1) := by decide +kernel
theorem d_Mo_isAhead_45 : decode prog_10_method_24_code 45 = .ok (.iload_n 1, 1) := by decide +kernel
theorem d_Mo_isAhead_46 : decode prog_10_method_24_code 46 = .ok (.iload_n 3, 1) := by decide +kernel
theorem d_Mo_isAhead_47 : decode prog_10_method_24_code 47 = .ok (.invokevirtual 120, 3) := by decide +kernel
theorem d_Mo_isAhead_50 : decode prog_10_method_24_code 50 = .ok (.aload_n 0, 1) := by decide +kernel
theorem d_Mo_isAhead_51 : decode prog_10_method_24_code 51 = .ok (.iload_n 2, 1) := by decide +kernel
theorem d_Mo_isAhead_52 : decode prog_10_method_24_code 52 = .ok (.iload_n 3, 1) := by decide +kernel
theorem d_Mo_isAhead_53 : decode prog_10_method_24_code 53 = .ok (.invokevirtual 120, 3) := by decide +kernel
theorem d_Mo_isAhead_56 : decode prog_10_method_24_code 56 = .ok (.if_icmp .eq 24, 3) := by decide +kernel
theorem d_Mo_isAhead_59 : decode prog_10_method_24_code 59 = .ok (.aload_n 0, 1) := by decide +kernel
theorem d_Mo_isAhead_60 : decode prog_10_method_24_code 60 = .ok (.iload_n 1, 1) := by decide +kernel
theorem d_Mo_isAhead_61 : decode prog_10_method_24_code 61 = .ok (.iload_n 3, 1) := by decide +kernel
theorem d_Mo_isAhead_62 : decode prog_10_method_24_code 62 = .ok (.invokevirtual 120, 3) := by decide +kernel
theorem d_Mo_isAhead_65 : decode prog_10_method_24_code 65 = .ok (.aload_n 0, 1) := by decide +kernel
theorem d_Mo_isAhead_66 : decode prog_10_method_24_code 66 = .ok (.iload_n 2, 1) := by decide +kernel
theorem d_Mo_isAhead_67 : decode prog_10_method_24_code 67 = .ok (.iload_n 3, 1) := by decide +kernel
theorem d_Mo_isAhead_68 : decode prog_10_method_24_code 68 = .ok (.invokevirtual 120, 3) := by decide +kernel
theorem d_Mo_isAhead_71 : decode prog_10_method_24_code 71 = .ok (.if_icmp .ge 7, 3) := by decide +kernel
theorem d_Mo_isAhead_74 : decode prog_10_method_24_code 74 = .ok (.iconst 1, 1) := by decide +kernel
theorem d_Mo_isAhead_75 : decode prog_10_method_24_code 75 = .ok (.goto 4, 3) := by decide +kernel
theorem d_Mo_isAhead_78 : decode prog_10_method_24_code 78 = .ok (.iconst 0, 1) := by decide +kernel
theorem d_Mo_isAhead_79 : decode prog_10_method_24_code 79 = .ok (.ireturn, 1) := by decide +kernel
theorem d_Mo_isAhead_80 : decode prog_10_method_24_code 80 = .ok (.iinc 3 1, 3) := by decide +kernel
theorem d_Mo_isAhead_83 : decode prog_10_method_24_code 83 = .ok (.goto (-45), 3) := by decide +kernel
theorem d_Mo_isAhead_86 : decode prog_10_method_24_code 86 = .ok (.iconst 0, 1) := by decide +kernel
theorem d_Mo_isAhead_87 : decode prog_10_method_24_code 87 = .ok (.ireturn, 1) := by decide +kernel
theorem d_Mo_rank_0 : decode prog_10_method_23_code 0 = .ok (.iload_n 2, 1) := by decide +kernel
theorem d_Mo_rank_1 : decode prog_10_method_23_code 1 = .ok (.aload_n 0, 1) := by decide +kernel
theorem d_Mo_rank_2 : decode prog_10_method_23_code 2 = .ok (.getfield 23, 3) := by decide +kernel
theorem d_Mo_rank_5 : decode prog_10_method_23_code 5 = .ok (.iload_n 1, 1) := by decide +kernel
theorem d_Mo_rank_6 : decode prog_10_method_23_code 6 = .ok (.iaload, 1) := by decide +kernel
theorem d_Mo_rank_7 : decode prog_10_method_23_code 7 = .ok (.if_icmp .lt 5, 3) := by decide +kernel
theorem d_Mo_rank_10 : decode prog_10_method_23_code 10 = .ok (.iconst 0, 1) := by decide +kernel
theorem d_Mo_rank_11 : decode prog_10_method_23_code 11 = .ok (.ireturn, 1) := by decide +kernel
theorem d_Mo_rank_12 : decode prog_10_method_23_code 12 = .ok (.aload_n 0, 1) := by decide +kernel
theorem d_Mo_rank_13 : decode prog_10_method_23_code 13 = .ok (.getfield 29, 3) := by decide +kernel
theorem d_Mo_rank_16 : decode prog_10_method_23_code 16 = .ok (.bipush 100, 2) := by decide +kernel
theorem d_Mo_rank_18 : decode prog_10_method_23_code 18 = .ok (.iload_n 1, 1) := by decide +kernel
theorem d_Mo_rank_19 : decode prog_10_method_23_code 19 = .ok (.imul, 1) := by decide +kernel
theorem d_Mo_rank_20 : decode prog_10_method_23_code 20 = .ok (.iload_n 2, 1) := by decide +kernel
theorem d_Mo_rank_21 : decode prog_10_method_23_code 21 = .ok (.iadd, 1) := by decide +kernel
theorem d_Mo_rank_22 : decode prog_10_method_23_code 22 = .ok (.baload, 1) := by decide +kernel
theorem d_Mo_rank_23 : decode prog_10_method_23_code 23 = .ok (.sipush 255, 3) := by decide +kernel
theorem d_Mo_rank_26 : decode prog_10_method_23_code 26 = .ok (.iand, 1) := by decide +kernel
theorem d_Mo_rank_27 : decode prog_10_method_23_code 27 = .ok (.istore_n 3, 1) := by decide +kernel
theorem d_Mo_rank_28 : decode prog_10_method_23_code 28 = .ok (.iload_n 3, 1) := by decide +kernel
theorem d_Mo_rank_29 : decode prog_10_method_23_code 29 = .ok (.bipush 47, 2) := by decide +kernel
theorem d_Mo_rank_31 : decode prog_10_method_23_code 31 = .ok (.if_icmp .ne 7, 3) := by decide +kernel
theorem d_Mo_rank_34 : decode prog_10_method_23_code 34 = .ok (.iconst 1, 1) := by decide +kernel
theorem d_Mo_rank_35 : decode prog_10_method_23_code 35 = .ok (.goto 6, 3) := by decide +kernel
theorem d_Mo_rank_38 : decode prog_10_method_23_code 38 = .ok (.iconst 2, 1) := by decide +kernel
theorem d_Mo_rank_39 : decode prog_10_method_23_code 39 = .ok (.iload_n 3, 1) := by decide +kernel
theorem d_Mo_rank_40 : decode prog_10_method_23_code 40 = .ok (.iadd, 1) := by decide +kernel
theorem d_Mo_rank_41 : decode prog_10_method_23_code 41 = .ok (.ireturn, 1) := by decide +kernel
theorem d_Mo_listed_0 : decode prog_10_method_26_code 0 = .ok (.aload_n 0, 1) := by decide +kernel
theorem d_Mo_listed_1 : decode prog_10_method_26_code 1 = .ok (.iconst 0, 1) := by decide +kernel
theorem d_Mo_listed_2 : decode prog_10_method_26_code 2 = .ok (.putfield 57, 3) := by decide +kernel
theorem d_Mo_listed_5 : decode prog_10_method_26_code 5 = .ok (.iload_n 1, 1) := by decide +kernel
theorem d_Mo_listed_6 : decode prog_10_method_26_code 6 = .ok (.ifCond .lt 26, 3) := by decide +kernel
theorem d_Mo_listed_9 : decode prog_10_method_26_code 9 = .ok (.iload_n 1, 1) := by decide +kernel
theorem d_Mo_listed_10 : decode prog_10_method_26_code 10 = .ok (.aload_n 0, 1) := by decide +kernel
theorem d_Mo_listed_11 : decode prog_10_method_26_code 11 = .ok (.getfield 123, 3) := by decide +kernel
theorem d_Mo_listed_14 : decode prog_10_method_26_code 14 = .ok (.if_icmp .ge 18, 3) := by decide +kernel
theorem d_Mo_listed_17 : decode prog_10_method_26_code 17 = .ok (.iload_n 2, 1) := by decide +kernel
theorem d_Mo_listed_18 : decode prog_10_method_26_code 18 = .ok (.iconst (-1), 1) := by decide +kernel
theorem d_Mo_listed_19 : decode prog_10_method_26_code 19 = .ok (.if_icmp .lt 13, 3) := by decide +kernel
theorem d_Mo_listed_22 : decode prog_10_method_26_code 22 = .ok (.iload_n 2, 1) := by decide +kernel
theorem d_Mo_listed_23 : decode prog_10_method_26_code 23 = .ok (.aload_n 0, 1) := by decide +kernel
theorem d_Mo_listed_24 : decode prog_10_method_26_code 24 = .ok (.getfield 48, 3) := by decide +kernel
theorem d_Mo_listed_27 : decode prog_10_method_26_code 27 = .ok (.iload_n 1, 1) := by decide +kernel
theorem d_Mo_listed_28 : decode prog_10_method_26_code 28 = .ok (.iaload, 1) := by decide +kernel
theorem d_Mo_listed_29 : decode prog_10_method_26_code 29 = .ok (.if_icmp .lt 5, 3) := by decide +kernel
theorem d_Mo_listed_32 : decode prog_10_method_26_code 32 = .ok (.iconst (-1), 1) := by decide +kernel
theorem d_Mo_listed_33 : decode prog_10_method_26_code 33 = .ok (.ireturn, 1) := by decide +kernel
theorem d_Mo_listed_34 : decode prog_10_method_26_code 34 = .ok (.iload_n 2, 1) := by decide +kernel
theorem d_Mo_listed_35 : decode prog_10_method_26_code 35 = .ok (.iconst (-1), 1) := by decide +kernel
theorem d_Mo_listed_36 : decode prog_10_method_26_code 36 = .ok (.if_icmp .ne 12, 3) := by decide +kernel
theorem d_Mo_listed_39 : decode prog_10_method_26_code 39 = .ok (.aload_n 0, 1) := by decide +kernel
theorem d_Mo_listed_40 : decode prog_10_method_26_code 40 = .ok (.getfield 45, 3) := by decide +kernel
theorem d_Mo_listed_43 : decode prog_10_method_26_code 43 = .ok (.iload_n 1, 1) := by decide +kernel
theorem d_Mo_listed_44 : decode prog_10_method_26_code 44 = .ok (.iaload, 1) := by decide +kernel
theorem d_Mo_listed_45 : decode prog_10_method_26_code 45 = .ok (.goto 18, 3) := by decide +kernel
theorem d_Mo_listed_48 : decode prog_10_method_26_code 48 = .ok (.aload_n 0, 1) := by decide +kernel
theorem d_Mo_listed_49 : decode prog_10_method_26_code 49 = .ok (.getfield 54, 3) := by decide +kernel
theorem d_Mo_listed_52 : decode prog_10_method_26_code 52 = .ok (.bipush 100, 2) := by decide +kernel
theorem d_Mo_listed_54 : decode prog_10_method_26_code 54 = .ok (.iload_n 1, 1) := by decide +kernel
theorem d_Mo_listed_55 : decode prog_10_method_26_code 55 = .ok (.imul, 1) := by decide +kernel
theorem d_Mo_listed_56 : decode prog_10_method_26_code 56 = .ok (.iload_n 2, 1) := by decide +kernel
theorem d_Mo_listed_57 : decode prog_10_method_26_code 57 = .ok (.iadd, 1) := by decide +kernel
theorem d_Mo_listed_58 : decode prog_10_method_26_code 58 = .ok (.baload, 1) := by decide +kernel
theorem d_Mo_listed_59 : decode prog_10_method_26_code 59 = .ok (.sipush 255, 3) := by decide +kernel
theorem d_Mo_listed_62 : decode prog_10_method_26_code 62 = .ok (.iand, 1) := by decide +kernel
theorem d_Mo_listed_63 : decode prog_10_method_26_code 63 = .ok (.ireturn, 1) := by decide +kernel
theorem d_Mo_count_0 : decode prog_10_method_27_code 0 = .ok (.aload_n 0, 1) := by decide +kernel
theorem d_Mo_count_1 : decode prog_10_method_27_code 1 = .ok (.iconst 0, 1) := by decide +kernel
theorem d_Mo_count_2 : decode prog_10_method_27_code 2 = .ok (.putfield 57, 3) := by decide +kernel
theorem d_Mo_count_5 : decode prog_10_method_27_code 5 = .ok (.iload_n 1, 1) := by decide +kernel
theorem d_Mo_count_6 : decode prog_10_method_27_code 6 = .ok (.ifCond .lt 9, 3) := by decide +kernel
theorem d_Mo_count_9 : decode prog_10_method_27_code 9 = .ok (.iload_n 1, 1) := by decide +kernel
theorem d_Mo_count_10 : decode prog_10_method_27_code 10 = .ok (.bipush 10, 2) := by decide +kernel
theorem d_Mo_count_12 : decode prog_10_method_27_code 12 = .ok (.if_icmp .le 5, 3) := by decide +kernel
theorem d_Mo_count_15 : decode prog_10_method_27_code 15 = .ok (.iconst (-1), 1) := by decide +kernel
theorem d_Mo_count_16 : decode prog_10_method_27_code 16 = .ok (.ireturn, 1) := by decide +kernel
theorem d_Mo_count_17 : decode prog_10_method_27_code 17 = .ok (.iconst 0, 1) := by decide +kernel
theorem d_Mo_count_18 : decode prog_10_method_27_code 18 = .ok (.istore_n 2, 1) := by decide +kernel
theorem d_Mo_count_19 : decode prog_10_method_27_code 19 = .ok (.iconst 0, 1) := by decide +kernel
theorem d_Mo_count_20 : decode prog_10_method_27_code 20 = .ok (.istore_n 3, 1) := by decide +kernel
theorem d_Mo_count_21 : decode prog_10_method_27_code 21 = .ok (.iload_n 3, 1) := by decide +kernel
theorem d_Mo_count_22 : decode prog_10_method_27_code 22 = .ok (.aload_n 0, 1) := by decide +kernel
theorem d_Mo_count_23 : decode prog_10_method_27_code 23 = .ok (.getfield 67, 3) := by decide +kernel
theorem d_Mo_count_26 : decode prog_10_method_27_code 26 = .ok (.if_icmp .ge 27, 3) := by decide +kernel
theorem d_Mo_count_29 : decode prog_10_method_27_code 29 = .ok (.iload_n 2, 1) := by decide +kernel
theorem d_Mo_count_30 : decode prog_10_method_27_code 30 = .ok (.aload_n 0, 1) := by decide +kernel
theorem d_Mo_count_31 : decode prog_10_method_27_code 31 = .ok (.getfield 16, 3) := by decide +kernel
theorem d_Mo_count_34 : decode prog_10_method_27_code 34 = .ok (.iload_n 3, 1) := by decide +kernel
theorem d_Mo_count_35 : decode prog_10_method_27_code 35 = .ok (.iaload, 1) := by decide +kernel
theorem d_Mo_count_36 : decode prog_10_method_27_code 36 = .ok (.iload_n 1, 1) := by decide +kernel
theorem d_Mo_count_37 : decode prog_10_method_27_code 37 = .ok (.if_icmp .ne 7, 3) := by decide +kernel
theorem d_Mo_count_40 : decode prog_10_method_27_code 40 = .ok (.iconst 1, 1) := by decide +kernel
theorem d_Mo_count_41 : decode prog_10_method_27_code 41 = .ok (.goto 4, 3) := by decide +kernel
theorem d_Mo_count_44 : decode prog_10_method_27_code 44 = .ok (.iconst 0, 1) := by decide +kernel
theorem d_Mo_count_45 : decode prog_10_method_27_code 45 = .ok (.iadd, 1) := by decide +kernel
theorem d_Mo_count_46 : decode prog_10_method_27_code 46 = .ok (.istore_n 2, 1) := by decide +kernel
theorem d_Mo_count_47 : decode prog_10_method_27_code 47 = .ok (.iinc 3 1, 3) := by decide +kernel
theorem d_Mo_count_50 : decode prog_10_method_27_code 50 = .ok (.goto (-29), 3) := by decide +kernel
theorem d_Mo_count_53 : decode prog_10_method_27_code 53 = .ok (.iload_n 1, 1) := by decide +kernel
theorem d_Mo_count_54 : decode prog_10_method_27_code 54 = .ok (.bipush 7, 2) := by decide +kernel
theorem d_Mo_count_56 : decode prog_10_method_27_code 56 = .ok (.if_icmp .ge 7, 3) := by decide +kernel
theorem d_Mo_count_59 : decode prog_10_method_27_code 59 = .ok (.iload_n 2, 1) := by decide +kernel
theorem d_Mo_count_60 : decode prog_10_method_27_code 60 = .ok (.goto 46, 3) := by decide +kernel
theorem d_Mo_count_63 : decode prog_10_method_27_code 63 = .ok (.iload_n 1, 1) := by decide +kernel
theorem d_Mo_count_64 : decode prog_10_method_27_code 64 = .ok (.bipush 7, 2) := by decide +kernel
theorem d_Mo_count_66 : decode prog_10_method_27_code 66 = .ok (.if_icmp .ne 10, 3) := by decide +kernel
theorem d_Mo_count_69 : decode prog_10_method_27_code 69 = .ok (.aload_n 0, 1) := by decide +kernel
theorem d_Mo_count_70 : decode prog_10_method_27_code 70 = .ok (.getfield 67, 3) := by decide +kernel
theorem d_Mo_count_73 : decode prog_10_method_27_code 73 = .ok (.goto 33, 3) := by decide +kernel
theorem d_Mo_count_76 : decode prog_10_method_27_code 76 = .ok (.iload_n 1, 1) := by decide +kernel
theorem d_Mo_count_77 : decode prog_10_method_27_code 77 = .ok (.bipush 8, 2) := by decide +kernel
theorem d_Mo_count_79 : decode prog_10_method_27_code 79 = .ok (.if_icmp .ne 10, 3) := by decide +kernel
theorem d_Mo_count_82 : decode prog_10_method_27_code 82 = .ok (.aload_n 0, 1) := by decide +kernel
theorem d_Mo_count_83 : decode prog_10_method_27_code 83 = .ok (.getfield 86, 3) := by decide +kernel
theorem d_Mo_count_86 : decode prog_10_method_27_code 86 = .ok (.goto 20, 3) := by decide +kernel
theorem d_Mo_count_89 : decode prog_10_method_27_code 89 = .ok (.iload_n 1, 1) := by decide +kernel
theorem d_Mo_count_90 : decode prog_10_method_27_code 90 = .ok (.bipush 9, 2) := by decide +kernel
theorem d_Mo_count_92 : decode prog_10_method_27_code 92 = .ok (.if_icmp .ne 10, 3) := by decide +kernel
theorem d_Mo_count_95 : decode prog_10_method_27_code 95 = .ok (.aload_n 0, 1) := by decide +kernel
theorem d_Mo_count_96 : decode prog_10_method_27_code 96 = .ok (.getfield 61, 3) := by decide +kernel
theorem d_Mo_count_99 : decode prog_10_method_27_code 99 = .ok (.goto 7, 3) := by decide +kernel
theorem d_Mo_count_102 : decode prog_10_method_27_code 102 = .ok (.aload_n 0, 1) := by decide +kernel
theorem d_Mo_count_103 : decode prog_10_method_27_code 103 = .ok (.getfield 89, 3) := by decide +kernel
theorem d_Mo_count_106 : decode prog_10_method_27_code 106 = .ok (.ireturn, 1) := by decide +kernel
end
section
/-! THE STATE in words: bytes, names, files, operations that never change; M: the places that may be written -/
abbrev g_N : Type := Int32 × Int32 × List Nat
abbrev g_F : Type := g_N × List Nat
abbrev g_O : Type := g_N × Option g_F
/-- the i-th byte, or -1 -/
def g_at (us : List Nat) (k : Int32) : Int32 := if k < 0 then -1 else if nI us.length ≤ k then -1 else nI (us.getD k.toNatClampNeg 0)
/-- the order of two paths as the class tells it -/
def g_po : List Nat → List Nat → Int32
  | x :: a, y :: b => if x = y then g_po a b else if x = 47 then -1 else if y = 47 then 1 else nI x - nI y
  | a, b => nI a.length - nI b.length
/-- Integer.compare -/
def g_cmp (x y : Int32) : Int32 := if x < y then -1 else if x = y then 0 else 1
/-- the order of two names as the class tells it -/
def g_no (a b : g_N) : Int32 := if a.1 = b.1 then (if a.2.1 = b.2.1 then g_po a.2.2 b.2.2 else g_cmp a.2.1 b.2.1) else g_cmp a.1 b.1
/-- bytes: an object with its row -/
def g_bs (D : va_G) (A : Nat → ClassId) (M : Nat → Prop) (a : Nat) (us : List Nat) (H : Heap) : Prop :=
  ∃ r : Nat, va_at D x_cl (a, .inr (0, [.ref r])) H ∧ va_at D x_cl (r, .inl (A 0, us.length, .inl (fun j => sb_b (us.getD j 0)))) H ∧ ¬ M a ∧ ¬ M r ∧ (∀ u ∈ us, u < 256) ∧ us.length ≤ 400
def g_nm (D : va_G) (A : Nat → ClassId) (M : Nat → Prop) (a : Nat) (n : g_N) (H : Heap) : Prop :=
  ∃ b : Nat, va_at D x_cl (a, .inr (1, [.int n.1, .int n.2.1, .ref b])) H ∧ ¬ M a ∧ g_bs D A M b n.2.2 H
def g_sf (D : va_G) (A : Nat → ClassId) (M : Nat → Prop) (a : Nat) (f : g_F) (H : Heap) : Prop :=
  ∃ b d : Nat, va_at D x_cl (a, .inr (2, [.ref b, .ref d])) H ∧ ¬ M a ∧ g_nm D A M b f.1 H ∧ g_bs D A M d f.2 H
def g_of (D : va_G) (A : Nat → ClassId) (M : Nat → Prop) (r : Option Nat) (f : Option g_F) (H : Heap) : Prop := match r, f with
  | none, none => True
  | some a, some f => g_sf D A M a f H
  | _, _ => False
def g_op (D : va_G) (A : Nat → ClassId) (M : Nat → Prop) (a : Nat) (o : g_O) (H : Heap) : Prop :=
  ∃ (b : Nat) (r : Option Nat), va_at D x_cl (a, .inr (3, [.ref b, va_rf r])) H ∧ ¬ M a ∧ g_nm D A M b o.1 H ∧ g_of D A M r o.2 H
/-- the places of a disk that the class may write: the object at a, and ten cells from z on -/
def g_M (a z : Nat) : Nat → Prop := fun q => q = a ∨ (z ≤ q ∧ q < z + 10)
/-- the places where nothing lies that never changes: these, and seventeen cells from z + 12 on -/
def g_Mx (a z : Nat) : Nat → Prop := fun q => q = a ∨ (z ≤ q ∧ q < z + 10) ∨ (z + 12 ≤ q ∧ q < z + 29)
/-- what M doesn't name stays -/
def g_K (M : Nat → Prop) (H H1 : Heap) : Prop := H.size ≤ H1.size ∧ ∀ q : Nat, q < H.size → ¬ M q → H1[q]? = H[q]?
theorem g_K.refl {M : Nat → Prop} {H : Heap} : g_K M H H := ⟨Nat.le_refl _, fun _ _ _ => rfl⟩
theorem g_K.trans {M : Nat → Prop} {H H1 H2 : Heap} (h : g_K M H H1) (h2 : g_K M H1 H2) : g_K M H H2 := ⟨Nat.le_trans h.1 h2.1, fun q hq hM => (h2.2 q (Nat.lt_of_lt_of_le hq h.1) hM).trans (h.2 q hq hM)⟩
theorem g_K.but {M : Nat → Prop} {a : Nat} {H H1 : Heap} (h : x_but a H H1) (ha : M a) : g_K M H H1 := ⟨Nat.le_of_eq h.1.symm, fun q _ hM => h.2 q (fun e => hM (e ▸ ha))⟩
theorem g_K.ext {M : Nat → Prop} {H H1 : Heap} (h : H1.size = H.size + 1) (h2 : ∀ q : Nat, q < H.size → H1[q]? = H[q]?) : g_K M H H1 := ⟨by omega, fun q hq _ => h2 q hq⟩
theorem g_K.at {M : Nat → Prop} {D : va_G} {H H1 : Heap} {q : Nat} {e : va_E} (h : g_K M H H1) (hq : va_at D x_cl (q, e) H) (hM : ¬ M q) : va_at D x_cl (q, e) H1 := hq.kept (h.2 q hq.lt hM)
theorem g_bs.kept {D : va_G} {A : Nat → ClassId} {M N : Nat → Prop} {a : Nat} {us : List Nat} {H H1 : Heap} (h : g_bs D A M a us H) (hk : g_K N H H1) (hNM : ∀ q, N q → M q := by first | exact fun _ h => h | exact fun _ h => h.elim Or.inl (fun h => Or.inr (Or.inl h))) : g_bs D A M a us H1 := by
  obtain ⟨r, h1, h2, h3, h4, h5⟩ := h
  exact ⟨r, hk.at h1 (fun q => h3 (hNM _ q)), hk.at h2 (fun q => h4 (hNM _ q)), h3, h4, h5⟩
theorem g_nm.kept {D : va_G} {A : Nat → ClassId} {M N : Nat → Prop} {a : Nat} {n : g_N} {H H1 : Heap} (h : g_nm D A M a n H) (hk : g_K N H H1) (hNM : ∀ q, N q → M q := by first | exact fun _ h => h | exact fun _ h => h.elim Or.inl (fun h => Or.inr (Or.inl h))) : g_nm D A M a n H1 := by
  obtain ⟨b, h1, h2, h3⟩ := h
  exact ⟨b, hk.at h1 (fun q => h2 (hNM _ q)), h2, h3.kept hk hNM⟩
theorem g_sf.kept {D : va_G} {A : Nat → ClassId} {M N : Nat → Prop} {a : Nat} {f : g_F} {H H1 : Heap} (h : g_sf D A M a f H) (hk : g_K N H H1) (hNM : ∀ q, N q → M q := by first | exact fun _ h => h | exact fun _ h => h.elim Or.inl (fun h => Or.inr (Or.inl h))) : g_sf D A M a f H1 := by
  obtain ⟨b, d, h1, h2, h3, h4⟩ := h
  exact ⟨b, d, hk.at h1 (fun q => h2 (hNM _ q)), h2, h3.kept hk hNM, h4.kept hk hNM⟩
theorem g_of.kept {D : va_G} {A : Nat → ClassId} {M N : Nat → Prop} {r : Option Nat} {f : Option g_F} {H H1 : Heap} (h : g_of D A M r f H) (hk : g_K N H H1) (hNM : ∀ q, N q → M q := by first | exact fun _ h => h | exact fun _ h => h.elim Or.inl (fun h => Or.inr (Or.inl h))) : g_of D A M r f H1 := by
  cases r <;> cases f
  · exact h
  · exact h
  · exact h
  · exact g_sf.kept h hk hNM
theorem g_op.kept {D : va_G} {A : Nat → ClassId} {M N : Nat → Prop} {a : Nat} {o : g_O} {H H1 : Heap} (h : g_op D A M a o H) (hk : g_K N H H1) (hNM : ∀ q, N q → M q := by first | exact fun _ h => h | exact fun _ h => h.elim Or.inl (fun h => Or.inr (Or.inl h))) : g_op D A M a o H1 := by
  obtain ⟨b, r, h1, h2, h3, h4⟩ := h
  exact ⟨b, r, hk.at h1 (fun q => h2 (hNM _ q)), h2, h3.kept hk hNM, h4.kept hk hNM⟩
theorem x_but.trans {a : Nat} {H H1 H2 : Heap} (h : x_but a H H1) (h2 : x_but a H1 H2) : x_but a H H2 := ⟨h2.1.trans h.1, fun q hq => (h2.2 q hq).trans (h.2 q hq)⟩
theorem x_but.at {D : va_G} {a q : Nat} {e : va_E} {H H1 : Heap} (h : x_but a H H1) (hq : va_at D x_cl (q, e) H) (hne : q ≠ a) : va_at D x_cl (q, e) H1 := hq.kept (h.2 q hne)
theorem g_u {us : List Nat} (h : ∀ u ∈ us, u < 256) (j : Nat) : us.getD j 0 < 256 := by
  rw [List.getD_eq_getElem?_getD]
  cases hj : us[j]? with
  | none => decide
  | some u => exact h u (List.mem_of_getElem? hj)
theorem g_and {us : List Nat} (h : ∀ u ∈ us, u < 256) (j : Nat) : sb_b (us.getD j 0) &&& 255 = nI (us.getD j 0) := (sb_byte _ (g_u h j)).1
theorem g_po_nil {us vs : List Nat} {k : Nat} (e : k = us.length) (h : k ≤ vs.length) : nI us.length - nI vs.length = g_po [] (vs.drop k) := by
  show _ = nI 0 - nI (vs.drop k).length
  rw [List.length_drop, e] at *
  have h1 : nI vs.length = nI us.length + nI (vs.length - us.length) := by rw [nI_add]; congr 1; omega
  rw [h1, nI_0]
  generalize nI us.length = x
  generalize nI (vs.length - us.length) = y
  apply Int32.toBitVec_inj.mp
  simp only [Int32.toBitVec_sub, Int32.toBitVec_add, Int32.toBitVec_zero]
  apply BitVec.eq_of_toNat_eq
  have hx := x.toBitVec.isLt
  have hy := y.toBitVec.isLt
  simp only [BitVec.toNat_sub, BitVec.toNat_add, BitVec.toNat_ofNat]
  omega
theorem g_po_any {a : List Nat} : g_po a [] = nI a.length - nI 0 := by cases a <;> rfl
theorem g_po_nil2 {us vs : List Nat} {k : Nat} (e : k = vs.length) (h : k ≤ us.length) : nI us.length - nI vs.length = g_po (us.drop k) (vs.drop k) := by
  rw [e, List.drop_length, g_po_any, List.length_drop, nI_0]
  rw [← e]
  have h1 : nI us.length = nI k + nI (us.length - k) := by rw [nI_add]; congr 1; omega
  rw [h1]
  generalize nI k = x
  generalize nI (us.length - k) = y
  apply Int32.toBitVec_inj.mp
  simp only [Int32.toBitVec_sub, Int32.toBitVec_add, Int32.toBitVec_zero]
  rw [BitVec.add_comm, BitVec.add_sub_cancel, BitVec.sub_zero]
theorem g_drop {us : List Nat} {k : Nat} (h : k < us.length) : us.drop k = us.getD k 0 :: us.drop (k + 1) := by
  rw [List.drop_eq_getElem_cons h, List.getD_eq_getElem?_getD, List.getElem?_eq_getElem h, Option.getD_some]
theorem g_po_step {us vs : List Nat} {k : Nat} (h : k < us.length) (h2 : k < vs.length) : g_po (us.drop k) (vs.drop k) = if us.getD k 0 = vs.getD k 0 then g_po (us.drop (k + 1)) (vs.drop (k + 1)) else if us.getD k 0 = 47 then -1 else if vs.getD k 0 = 47 then 1 else nI (us.getD k 0) - nI (vs.getD k 0) := by
  rw [g_drop h, g_drop h2]
  rfl
section XL
variable {p : Program} {l : Launch} {e : Env} {R : Room} {s : State} {m : MethodId} {args : Array Value} {below : List Frame} {meth : Method} {c : Code} {cells slots : Nat} {Q : State → Prop}
/-- a loop: a state of it, what holds there, a measure that falls -/
theorem x_loop {σ : Type} (g : σ → JFrame) (Hh : σ → Heap) (Lc : σ → List Loc) (I : σ → Prop) (μ : σ → Nat) {s0 : σ} (h0 : I s0)
    (step : ∀ z, I z → (∀ z', I z' → μ z' < μ z → W p l e R s m args below meth c (Hh z') (Lc z') cells slots Q (g z')) → W p l e R s m args below meth c (Hh z) (Lc z) cells slots Q (g z)) : W p l e R s m args below meth c (Hh s0) (Lc s0) cells slots Q (g s0) := by
  have key : ∀ (n : Nat) (z : σ), I z → μ z < n → W p l e R s m args below meth c (Hh z) (Lc z) cells slots Q (g z) := by
    intro n
    induction n with
    | zero => intro z _ h; exact absurd h (Nat.not_lt_zero _)
    | succ n ih => intro z hz hn; exact step z hz (fun z' hz' hm => ih z' hz' (by omega))
  exact key (μ s0 + 1) s0 h0 (Nat.lt_succ_self _)
end XL
end
section
set_option maxHeartbeats 4000000 in
set_option maxRecDepth 100000 in
theorem c_By_init (l : Launch) {D : va_G} {A : Nat → ClassId} {H0 : Heap} {a : Nat} {r : Nat} (h : va_at D x_cl (a, .inr (0, [.null])) H0) : Met l y_By_init w_By_init { frames := 1, cells := 0, slots := 0, locals := 12 } (x_Pc D A [.ref a, .ref r] H0) (x_Q none (fun H1 => va_at D x_cl (a, .inr (0, [.ref r])) H1 ∧ x_but a H0 H1)) 0 0 (fun q => q = a) := by
  refine Met.ofW (cc := prog_2_method_1_code) (maxL := 2) (ret := none) (by decide) rfl ?_
  intro p e s m args below meth c s₁ B hml hv
  obtain ⟨rfl, hH, hK, hN⟩ := hv
  obtain ⟨hx, hb, hr, htb, hown, hlocks⟩ := x_start (wd := Cond.code y_By_init prog_2_method_1_code 2 none) B
  have hin : meth.name = "<init>" := (name_of_methodNamed B.named B.method).1
  have hl := lv_entry ([.ref a, .ref r]) (n := 2) (Nat.le_of_ble_eq_true rfl)
  rw [lg_entry_eq]
  generalize (lg_sl ([.ref a, .ref r]) ++ List.replicate (2 - (lg_sl ([.ref a, .ref r])).length) Slot.unset).toArray = ls at hl ⊢
  have hl : lv_has ls 2 [(0, .ref a), (1, .ref r)] := hl
  rw [hH]
  refine lv_aload_n hx hb d_By_init_0 rfl (lv_at hl 0 rfl) ?_
  refine W.objInit hx hb hown (htb _ mw_80) (htb _ mw_26) (show (Cond.code objectInit ⟨#[0xb1]⟩ 1 none).before _ s = true from htb _ mw_27) rfl (by rw [hml]; exact hl.1) rfl d_By_init_1 (Nat.le_of_ble_eq_true rfl) (Nat.le_of_ble_eq_true rfl) ?_
  refine W.eq (g2 := F0 m 4 ls []) rfl ?_
  have hL : ∀ q ∈ ([] : List Loc), (fun q : Nat => q = a) q.base := fun q hq => by cases hq
  refine lv_aload_n hx hb d_By_init_4 rfl (lv_at hl 0 rfl) ?_
  refine lv_aload_n hx hb d_By_init_5 rfl (lv_at hl 1 rfl) ?_
  refine x_putF (F := fun q : Nat => q = a) (ci := 0) (v := .ref r) (ty := .array .byte) (T := T_By) hx hb htb u_By t_By t_By_ok n_By hown hK h hL rfl rfl 0 (by decide) (htb _ mw_81) (fun _ h9 => h9) rfl hin rfl (by decide +kernel) rfl rfl (Nat.le_of_ble_eq_true rfl) d_By_init_6 (fun H1 locs hf2 hc3 hL => ?_)
  have hf2 : va_at D x_cl (a, .inr (0, [.ref r])) H1 := hf2
  exact x_vret hx hb hr hlocks ⟨hf2, hc3⟩ hL (Nat.le_refl _) (Nat.le_refl _) d_By_init_9
set_option maxHeartbeats 4000000 in
set_option maxRecDepth 100000 in
theorem c_Nm_init (l : Launch) {D : va_G} {A : Nat → ClassId} {H0 : Heap} {a : Nat} {x y : Int32} {b : Nat} (h : va_at D x_cl (a, .inr (1, [.int 0, .int 0, .null])) H0) : Met l y_Nm_init w_Nm_init { frames := 1, cells := 0, slots := 0, locals := 12 } (x_Pc D A [.ref a, .int x, .int y, .ref b] H0) (x_Q none (fun H1 => va_at D x_cl (a, .inr (1, [.int x, .int y, .ref b])) H1 ∧ x_but a H0 H1)) 0 0 (fun q => q = a) := by
  refine Met.ofW (cc := prog_5_method_1_code) (maxL := 4) (ret := none) (by decide) rfl ?_
  intro p e s m args below meth c s₁ B hml hv
  obtain ⟨rfl, hH, hK, hN⟩ := hv
  obtain ⟨hx, hb, hr, htb, hown, hlocks⟩ := x_start (wd := Cond.code y_Nm_init prog_5_method_1_code 4 none) B
  have hin : meth.name = "<init>" := (name_of_methodNamed B.named B.method).1
  have hl := lv_entry ([.ref a, .int x, .int y, .ref b]) (n := 4) (Nat.le_of_ble_eq_true rfl)
  rw [lg_entry_eq]
  generalize (lg_sl ([.ref a, .int x, .int y, .ref b]) ++ List.replicate (4 - (lg_sl ([.ref a, .int x, .int y, .ref b])).length) Slot.unset).toArray = ls at hl ⊢
  have hl : lv_has ls 4 [(0, .ref a), (1, .int x), (2, .int y), (3, .ref b)] := hl
  rw [hH]
  refine lv_aload_n hx hb d_Nm_init_0 rfl (lv_at hl 0 rfl) ?_
  refine W.objInit hx hb hown (htb _ mw_140) (htb _ mw_26) (show (Cond.code objectInit ⟨#[0xb1]⟩ 1 none).before _ s = true from htb _ mw_27) rfl (by rw [hml]; exact hl.1) rfl d_Nm_init_1 (Nat.le_of_ble_eq_true rfl) (Nat.le_of_ble_eq_true rfl) ?_
  refine W.eq (g2 := F0 m 4 ls []) rfl ?_
  have hL : ∀ q ∈ ([] : List Loc), (fun q : Nat => q = a) q.base := fun q hq => by cases hq
  refine lv_aload_n hx hb d_Nm_init_4 rfl (lv_at hl 0 rfl) ?_
  refine lv_iload_n hx hb d_Nm_init_5 rfl (lv_at hl 1 rfl) ?_
  refine x_putF (F := fun q : Nat => q = a) (ci := 1) (v := .int x) (ty := .int) (T := T_Nm) hx hb htb u_Nm t_Nm t_Nm_ok n_Nm hown hK h hL rfl rfl 0 (by decide) (htb _ mw_141) (fun _ h9 => h9) rfl hin rfl (by decide +kernel) rfl rfl (Nat.le_of_ble_eq_true rfl) d_Nm_init_6 (fun H4 locs hf5 hc6 hL => ?_)
  have hf5 : va_at D x_cl (a, .inr (1, [.int x, .int 0, .null])) H4 := hf5
  refine lv_aload_n hx hb d_Nm_init_9 rfl (lv_at hl 0 rfl) ?_
  refine lv_iload_n hx hb d_Nm_init_10 rfl (lv_at hl 2 rfl) ?_
  refine x_putF (F := fun q : Nat => q = a) (ci := 1) (v := .int y) (ty := .int) (T := T_Nm) hx hb htb u_Nm t_Nm t_Nm_ok n_Nm hown hK hf5 hL rfl rfl 1 (by decide) (htb _ mw_143) (fun _ h9 => h9) rfl hin rfl (by decide +kernel) rfl rfl (Nat.le_of_ble_eq_true rfl) d_Nm_init_11 (fun H7 locs hf8 hc9 hL => ?_)
  have hf8 : va_at D x_cl (a, .inr (1, [.int x, .int y, .null])) H7 := hf8
  refine lv_aload_n hx hb d_Nm_init_14 rfl (lv_at hl 0 rfl) ?_
  refine lv_aload_n hx hb d_Nm_init_15 rfl (lv_at hl 3 rfl) ?_
  refine x_putF (F := fun q : Nat => q = a) (ci := 1) (v := .ref b) (ty := .object "BreakingDisk$Bytes") (T := T_Nm) hx hb htb u_Nm t_Nm t_Nm_ok n_Nm hown hK hf8 hL rfl rfl 2 (by decide) (htb _ mw_145) (fun _ h9 => h9) rfl hin rfl (by decide +kernel) rfl rfl (Nat.le_of_ble_eq_true rfl) d_Nm_init_16 (fun H10 locs hf11 hc12 hL => ?_)
  have hf11 : va_at D x_cl (a, .inr (1, [.int x, .int y, .ref b])) H10 := hf11
  exact x_vret hx hb hr hlocks ⟨hf11, ((hc6.trans hc9).trans hc12)⟩ hL (Nat.le_refl _) (Nat.le_refl _) d_Nm_init_19
set_option maxHeartbeats 4000000 in
set_option maxRecDepth 100000 in
theorem c_Sf_init (l : Launch) {D : va_G} {A : Nat → ClassId} {H0 : Heap} {a : Nat} {b d : Nat} (h : va_at D x_cl (a, .inr (2, [.null, .null])) H0) : Met l y_Sf_init w_Sf_init { frames := 1, cells := 0, slots := 0, locals := 12 } (x_Pc D A [.ref a, .ref b, .ref d] H0) (x_Q none (fun H1 => va_at D x_cl (a, .inr (2, [.ref b, .ref d])) H1 ∧ x_but a H0 H1)) 0 0 (fun q => q = a) := by
  refine Met.ofW (cc := prog_7_method_1_code) (maxL := 3) (ret := none) (by decide) rfl ?_
  intro p e s m args below meth c s₁ B hml hv
  obtain ⟨rfl, hH, hK, hN⟩ := hv
  obtain ⟨hx, hb, hr, htb, hown, hlocks⟩ := x_start (wd := Cond.code y_Sf_init prog_7_method_1_code 3 none) B
  have hin : meth.name = "<init>" := (name_of_methodNamed B.named B.method).1
  have hl := lv_entry ([.ref a, .ref b, .ref d]) (n := 3) (Nat.le_of_ble_eq_true rfl)
  rw [lg_entry_eq]
  generalize (lg_sl ([.ref a, .ref b, .ref d]) ++ List.replicate (3 - (lg_sl ([.ref a, .ref b, .ref d])).length) Slot.unset).toArray = ls at hl ⊢
  have hl : lv_has ls 3 [(0, .ref a), (1, .ref b), (2, .ref d)] := hl
  rw [hH]
  refine lv_aload_n hx hb d_Sf_init_0 rfl (lv_at hl 0 rfl) ?_
  refine W.objInit hx hb hown (htb _ mw_374) (htb _ mw_26) (show (Cond.code objectInit ⟨#[0xb1]⟩ 1 none).before _ s = true from htb _ mw_27) rfl (by rw [hml]; exact hl.1) rfl d_Sf_init_1 (Nat.le_of_ble_eq_true rfl) (Nat.le_of_ble_eq_true rfl) ?_
  refine W.eq (g2 := F0 m 4 ls []) rfl ?_
  have hL : ∀ q ∈ ([] : List Loc), (fun q : Nat => q = a) q.base := fun q hq => by cases hq
  refine lv_aload_n hx hb d_Sf_init_4 rfl (lv_at hl 0 rfl) ?_
  refine lv_aload_n hx hb d_Sf_init_5 rfl (lv_at hl 1 rfl) ?_
  refine x_putF (F := fun q : Nat => q = a) (ci := 2) (v := .ref b) (ty := .object "BreakingDisk$Name") (T := T_Sf) hx hb htb u_Sf t_Sf t_Sf_ok n_Sf hown hK h hL rfl rfl 0 (by decide) (htb _ mw_375) (fun _ h9 => h9) rfl hin rfl (by decide +kernel) rfl rfl (Nat.le_of_ble_eq_true rfl) d_Sf_init_6 (fun H13 locs hf14 hc15 hL => ?_)
  have hf14 : va_at D x_cl (a, .inr (2, [.ref b, .null])) H13 := hf14
  refine lv_aload_n hx hb d_Sf_init_9 rfl (lv_at hl 0 rfl) ?_
  refine lv_aload_n hx hb d_Sf_init_10 rfl (lv_at hl 2 rfl) ?_
  refine x_putF (F := fun q : Nat => q = a) (ci := 2) (v := .ref d) (ty := .object "BreakingDisk$Bytes") (T := T_Sf) hx hb htb u_Sf t_Sf t_Sf_ok n_Sf hown hK hf14 hL rfl rfl 1 (by decide) (htb _ mw_378) (fun _ h9 => h9) rfl hin rfl (by decide +kernel) rfl rfl (Nat.le_of_ble_eq_true rfl) d_Sf_init_11 (fun H16 locs hf17 hc18 hL => ?_)
  have hf17 : va_at D x_cl (a, .inr (2, [.ref b, .ref d])) H16 := hf17
  exact x_vret hx hb hr hlocks ⟨hf17, (hc15.trans hc18)⟩ hL (Nat.le_refl _) (Nat.le_refl _) d_Sf_init_14
set_option maxHeartbeats 4000000 in
set_option maxRecDepth 100000 in
theorem c_Op_init (l : Launch) {D : va_G} {A : Nat → ClassId} {H0 : Heap} {a b d : Nat} (h : va_at D x_cl (a, .inr (3, [.null, .null])) H0) : Met l y_Op_init w_Op_init { frames := 1, cells := 0, slots := 0, locals := 12 } (x_Pc D A [.ref a, .ref b, .ref d] H0) (x_Q none (fun H1 => va_at D x_cl (a, .inr (3, [.ref b, .ref d])) H1 ∧ x_but a H0 H1)) 0 0 (fun q => q = a) := by
  refine Met.ofW (cc := prog_6_method_1_code) (maxL := 3) (ret := none) (by decide) rfl ?_
  intro p e s m args below meth c s₁ B hml hv
  obtain ⟨rfl, hH, hK, hN⟩ := hv
  obtain ⟨hx, hb, hr, htb, hown, hlocks⟩ := x_start (wd := Cond.code y_Op_init prog_6_method_1_code 3 none) B
  have hin : meth.name = "<init>" := (name_of_methodNamed B.named B.method).1
  have hl := lv_entry ([.ref a, .ref b, .ref d]) (n := 3) (Nat.le_of_ble_eq_true rfl)
  rw [lg_entry_eq]
  generalize (lg_sl ([.ref a, .ref b, .ref d]) ++ List.replicate (3 - (lg_sl ([.ref a, .ref b, .ref d])).length) Slot.unset).toArray = ls at hl ⊢
  have hl : lv_has ls 3 [(0, .ref a), (1, .ref b), (2, .ref d)] := hl
  rw [hH]
  refine lv_aload_n hx hb d_Op_init_0 rfl (lv_at hl 0 rfl) ?_
  refine W.objInit hx hb hown (htb _ mw_388) (htb _ mw_26) (show (Cond.code objectInit ⟨#[0xb1]⟩ 1 none).before _ s = true from htb _ mw_27) rfl (by rw [hml]; exact hl.1) rfl d_Op_init_1 (Nat.le_of_ble_eq_true rfl) (Nat.le_of_ble_eq_true rfl) ?_
  refine W.eq (g2 := F0 m 4 ls []) rfl ?_
  have hL : ∀ q ∈ ([] : List Loc), (fun q : Nat => q = a) q.base := fun q hq => by cases hq
  refine lv_aload_n hx hb d_Op_init_4 rfl (lv_at hl 0 rfl) ?_
  refine lv_aload_n hx hb d_Op_init_5 rfl (lv_at hl 1 rfl) ?_
  refine x_putF (F := fun q : Nat => q = a) (ci := 3) (v := .ref b) (ty := .object "BreakingDisk$Name") (T := T_Op) hx hb htb u_Op t_Op t_Op_ok n_Op hown hK h hL rfl rfl 0 (by decide) (htb _ mw_389) (fun _ h9 => h9) rfl hin rfl (by decide +kernel) rfl rfl (Nat.le_of_ble_eq_true rfl) d_Op_init_6 (fun H19 locs hf20 hc21 hL => ?_)
  have hf20 : va_at D x_cl (a, .inr (3, [.ref b, .null])) H19 := hf20
  refine lv_aload_n hx hb d_Op_init_9 rfl (lv_at hl 0 rfl) ?_
  refine lv_aload_n hx hb d_Op_init_10 rfl (lv_at hl 2 rfl) ?_
  refine x_putF (F := fun q : Nat => q = a) (ci := 3) (v := .ref d) (ty := .object "BreakingDisk$StoredFile") (T := T_Op) hx hb htb u_Op t_Op t_Op_ok n_Op hown hK hf20 hL rfl rfl 1 (by decide) (htb _ mw_391) (fun _ h9 => h9) rfl hin rfl (by decide +kernel) rfl rfl (Nat.le_of_ble_eq_true rfl) d_Op_init_11 (fun H22 locs hf23 hc24 hL => ?_)
  have hf23 : va_at D x_cl (a, .inr (3, [.ref b, .ref d])) H22 := hf23
  exact x_vret hx hb hr hlocks ⟨hf23, (hc21.trans hc24)⟩ hL (Nat.le_refl _) (Nat.le_refl _) d_Op_init_14
set_option maxHeartbeats 4000000 in
set_option maxRecDepth 100000 in
theorem c_Op_initN (l : Launch) {D : va_G} {A : Nat → ClassId} {H0 : Heap} {a b : Nat} (h : va_at D x_cl (a, .inr (3, [.null, .null])) H0) : Met l y_Op_init w_Op_init { frames := 1, cells := 0, slots := 0, locals := 12 } (x_Pc D A [.ref a, .ref b, .null] H0) (x_Q none (fun H1 => va_at D x_cl (a, .inr (3, [.ref b, .null])) H1 ∧ x_but a H0 H1)) 0 0 (fun q => q = a) := by
  refine Met.ofW (cc := prog_6_method_1_code) (maxL := 3) (ret := none) (by decide) rfl ?_
  intro p e s m args below meth c s₁ B hml hv
  obtain ⟨rfl, hH, hK, hN⟩ := hv
  obtain ⟨hx, hb, hr, htb, hown, hlocks⟩ := x_start (wd := Cond.code y_Op_init prog_6_method_1_code 3 none) B
  have hin : meth.name = "<init>" := (name_of_methodNamed B.named B.method).1
  have hl := lv_entry ([.ref a, .ref b, .null]) (n := 3) (Nat.le_of_ble_eq_true rfl)
  rw [lg_entry_eq]
  generalize (lg_sl ([.ref a, .ref b, .null]) ++ List.replicate (3 - (lg_sl ([.ref a, .ref b, .null])).length) Slot.unset).toArray = ls at hl ⊢
  have hl : lv_has ls 3 [(0, .ref a), (1, .ref b), (2, .null)] := hl
  rw [hH]
  refine lv_aload_n hx hb d_Op_init_0 rfl (lv_at hl 0 rfl) ?_
  refine W.objInit hx hb hown (htb _ mw_388) (htb _ mw_26) (show (Cond.code objectInit ⟨#[0xb1]⟩ 1 none).before _ s = true from htb _ mw_27) rfl (by rw [hml]; exact hl.1) rfl d_Op_init_1 (Nat.le_of_ble_eq_true rfl) (Nat.le_of_ble_eq_true rfl) ?_
  refine W.eq (g2 := F0 m 4 ls []) rfl ?_
  have hL : ∀ q ∈ ([] : List Loc), (fun q : Nat => q = a) q.base := fun q hq => by cases hq
  refine lv_aload_n hx hb d_Op_init_4 rfl (lv_at hl 0 rfl) ?_
  refine lv_aload_n hx hb d_Op_init_5 rfl (lv_at hl 1 rfl) ?_
  refine x_putF (F := fun q : Nat => q = a) (ci := 3) (v := .ref b) (ty := .object "BreakingDisk$Name") (T := T_Op) hx hb htb u_Op t_Op t_Op_ok n_Op hown hK h hL rfl rfl 0 (by decide) (htb _ mw_389) (fun _ h9 => h9) rfl hin rfl (by decide +kernel) rfl rfl (Nat.le_of_ble_eq_true rfl) d_Op_init_6 (fun H25 locs hf26 hc27 hL => ?_)
  have hf26 : va_at D x_cl (a, .inr (3, [.ref b, .null])) H25 := hf26
  refine lv_aload_n hx hb d_Op_init_9 rfl (lv_at hl 0 rfl) ?_
  refine lv_aload_nN hx hb d_Op_init_10 rfl (lv_at hl 2 rfl) ?_
  refine x_putF (F := fun q : Nat => q = a) (ci := 3) (v := .null) (ty := .object "BreakingDisk$StoredFile") (T := T_Op) hx hb htb u_Op t_Op t_Op_ok n_Op hown hK hf26 hL rfl rfl 1 (by decide) (htb _ mw_391) (fun _ h9 => h9) rfl hin rfl (by decide +kernel) rfl rfl (Nat.le_of_ble_eq_true rfl) d_Op_init_11 (fun H28 locs hf29 hc30 hL => ?_)
  have hf29 : va_at D x_cl (a, .inr (3, [.ref b, .null])) H28 := hf29
  exact x_vret hx hb hr hlocks ⟨hf29, (hc27.trans hc30)⟩ hL (Nat.le_refl _) (Nat.le_refl _) d_Op_init_14
set_option maxHeartbeats 4000000 in
set_option maxRecDepth 100000 in
theorem c_By_length (l : Launch) {D : va_G} {A : Nat → ClassId} {H0 : Heap} {M : Nat → Prop} {a : Nat} {us : List Nat} (h : g_bs D A M a us H0) : Met l y_By_length w_By_length { frames := 0, cells := 0, slots := 0, locals := 0 } (x_Pc D A [.ref a] H0) (x_Q (some (.int (nI us.length))) (fun H1 => H1 = H0)) 0 0 (fun _ => False) := by
  refine Met.ofW (cc := prog_2_method_2_code) (maxL := 1) (ret := (some .int)) (by decide) rfl ?_
  intro p e s m args below meth c s₁ B hml hv
  obtain ⟨rfl, hH, hK, hN⟩ := hv
  obtain ⟨hx, hb, hr, htb, hown, hlocks⟩ := x_start (wd := Cond.code y_By_length prog_2_method_2_code 1 (some .int)) B
  have hl := lv_entry ([.ref a]) (n := 1) (Nat.le_of_ble_eq_true rfl)
  rw [lg_entry_eq]
  generalize (lg_sl ([.ref a]) ++ List.replicate (1 - (lg_sl ([.ref a])).length) Slot.unset).toArray = ls at hl ⊢
  have hl : lv_has ls 1 [(0, .ref a)] := hl
  rw [hH]
  obtain ⟨r, h1, h2, h3, h4, h5, h6⟩ := h
  refine lv_aload_n hx hb d_By_length_0 rfl (lv_at hl 0 rfl) ?_
  refine x_get (ci := 0) (T := T_By) hx hb htb u_By hown hK h1 rfl 0 (by decide) (htb _ mw_81) (fun _ h9 => h9) (v := .ref r) rfl d_By_length_1 ?_
  refine x_alen hx hb hK 0 h2 rfl (v := nI us.length) rfl d_By_length_4 ?_
  exact x_iret hx hb hr hlocks rfl rfl (fun q hq => by cases hq) (Nat.le_refl _) (Nat.le_refl _) d_By_length_5
set_option maxHeartbeats 4000000 in
set_option maxRecDepth 100000 in
theorem c_By_byteAt (l : Launch) {D : va_G} {A : Nat → ClassId} {H0 : Heap} {M : Nat → Prop} {a : Nat} {us : List Nat} (h : g_bs D A M a us H0) (k : Int32) : Met l y_By_byteAt w_By_byteAt { frames := 0, cells := 0, slots := 0, locals := 0 } (x_Pc D A [.ref a, .int k] H0) (x_Q (some (.int (g_at us k))) (fun H1 => H1 = H0)) 0 0 (fun _ => False) := by
  refine Met.ofW (cc := prog_2_method_3_code) (maxL := 2) (ret := (some .int)) (by decide) rfl ?_
  intro p e s m args below meth c s₁ B hml hv
  obtain ⟨rfl, hH, hK, hN⟩ := hv
  obtain ⟨hx, hb, hr, htb, hown, hlocks⟩ := x_start (wd := Cond.code y_By_byteAt prog_2_method_3_code 2 (some .int)) B
  have hl := lv_entry ([.ref a, .int k]) (n := 2) (Nat.le_of_ble_eq_true rfl)
  rw [lg_entry_eq]
  generalize (lg_sl ([.ref a, .int k]) ++ List.replicate (2 - (lg_sl ([.ref a, .int k])).length) Slot.unset).toArray = ls at hl ⊢
  have hl : lv_has ls 2 [(0, .ref a), (1, .int k)] := hl
  rw [hH]
  obtain ⟨r, h1, h2, h3, h4, h5, h6⟩ := h
  refine lv_iload_n hx hb d_By_byteAt_0 rfl (lv_at hl 1 rfl) ?_
  refine lv_if_lt (tgt := 26) hx hb d_By_byteAt_1 (by decide) (fun c1 => ?_) (fun c1 => ?_)
  · refine lv_iconst (v := (-1)) hx hb d_By_byteAt_26 (by decide) ?_
    exact x_iret hx hb hr hlocks (by rw [g_at, if_pos c1]) rfl (fun q hq => by cases hq) (Nat.le_refl _) (Nat.le_refl _) d_By_byteAt_27
  · refine lv_iload_n hx hb d_By_byteAt_4 rfl (lv_at hl 1 rfl) ?_
    refine lv_aload_n hx hb d_By_byteAt_5 rfl (lv_at hl 0 rfl) ?_
    refine x_get (ci := 0) (T := T_By) hx hb htb u_By hown hK h1 rfl 0 (by decide) (htb _ mw_81) (fun _ h9 => h9) (v := .ref r) rfl d_By_byteAt_6 ?_
    refine x_alen hx hb hK 0 h2 rfl (v := nI us.length) rfl d_By_byteAt_9 ?_
    refine lv_icmp_ge (tgt := 26) hx hb d_By_byteAt_10 (by decide) (fun c2 => ?_) (fun c2 => ?_)
    · refine lv_iconst (v := (-1)) hx hb d_By_byteAt_26 (by decide) ?_
      exact x_iret hx hb hr hlocks (by rw [g_at, if_neg c1, if_pos c2]) rfl (fun q hq => by cases hq) (Nat.le_refl _) (Nat.le_refl _) d_By_byteAt_27
    · refine lv_aload_n hx hb d_By_byteAt_13 rfl (lv_at hl 0 rfl) ?_
      refine x_get (ci := 0) (T := T_By) hx hb htb u_By hown hK h1 rfl 0 (by decide) (htb _ mw_81) (fun _ h9 => h9) (v := .ref r) rfl d_By_byteAt_14 ?_
      refine lv_iload_n hx hb d_By_byteAt_17 rfl (lv_at hl 1 rfl) ?_
      obtain ⟨j, hj, ej⟩ : ∃ j : Nat, j < us.length ∧ k = nI j := by
        rcases pk_ix k (n := us.length) (by omega) with q | q | q
        · exact absurd q c1
        · exact absurd q c2
        · exact q
      refine x_bald hx hb hK 0 h2 rfl (by rw [ej]; exact vp_in_nI hj (by omega)) d_By_byteAt_18 ?_
      refine lv_sipush (v := 255) hx hb d_By_byteAt_19 (by decide) ?_
      refine lv_iand hx hb d_By_byteAt_22 ?_
      refine lv_goto (tgt := 27) hx hb d_By_byteAt_23 (by decide) ?_
      refine x_top (y := nI (us.getD k.toNatClampNeg 0)) (g_and h5 _) ?_
      exact x_iret hx hb hr hlocks (by rw [g_at, if_neg c1, if_neg c2]) rfl (fun q hq => by cases hq) (Nat.le_refl _) (Nat.le_refl _) d_By_byteAt_27
set_option maxHeartbeats 4000000 in
set_option maxRecDepth 100000 in
theorem c_It_compare (l : Launch) {D : va_G} {A : Nat → ClassId} {H0 : Heap} (x y : Int32) : Met l y_It_compare w_It_compare { frames := 0, cells := 0, slots := 0, locals := 0 } (x_Pc D A [.int x, .int y] H0) (x_Q (some (.int (g_cmp x y))) (fun H1 => H1 = H0)) 0 0 (fun _ => False) := by
  refine Met.ofW (cc := prog_16_method_40_code) (maxL := 2) (ret := (some .int)) (by decide) rfl ?_
  intro p e s m args below meth c s₁ B hml hv
  obtain ⟨rfl, hH, hK, hN⟩ := hv
  obtain ⟨hx, hb, hr, htb, hown, hlocks⟩ := x_start (wd := Cond.code y_It_compare prog_16_method_40_code 2 (some .int)) B
  have hl := lv_entry ([.int x, .int y]) (n := 2) (Nat.le_of_ble_eq_true rfl)
  rw [lg_entry_eq]
  generalize (lg_sl ([.int x, .int y]) ++ List.replicate (2 - (lg_sl ([.int x, .int y])).length) Slot.unset).toArray = ls at hl ⊢
  have hl : lv_has ls 2 [(0, .int x), (1, .int y)] := hl
  rw [hH]
  refine lv_iload_n hx hb d_It_compare_0 rfl (lv_at hl 0 rfl) ?_
  refine lv_iload_n hx hb d_It_compare_1 rfl (lv_at hl 1 rfl) ?_
  refine lv_icmp_ge (tgt := 9) hx hb d_It_compare_2 (by decide) (fun c1 => ?_) (fun c1 => ?_)
  · refine lv_iload_n hx hb d_It_compare_9 rfl (lv_at hl 0 rfl) ?_
    refine lv_iload_n hx hb d_It_compare_10 rfl (lv_at hl 1 rfl) ?_
    refine lv_icmp_ne (tgt := 18) hx hb d_It_compare_11 (by decide) (fun c2 => ?_) (fun c2 => ?_)
    · refine lv_iconst (v := 1) hx hb d_It_compare_18 (by decide) ?_
      exact x_iret hx hb hr hlocks (by rw [g_cmp, if_neg (Int32.not_lt.mpr c1), if_neg c2]) rfl (fun q hq => by cases hq) (Nat.le_refl _) (Nat.le_refl _) d_It_compare_19
    · refine lv_iconst (v := 0) hx hb d_It_compare_14 (by decide) ?_
      refine lv_goto (tgt := 19) hx hb d_It_compare_15 (by decide) ?_
      exact x_iret hx hb hr hlocks (by rw [g_cmp, if_neg (Int32.not_lt.mpr c1), if_pos c2]) rfl (fun q hq => by cases hq) (Nat.le_refl _) (Nat.le_refl _) d_It_compare_19
  · refine lv_iconst (v := (-1)) hx hb d_It_compare_5 (by decide) ?_
    refine lv_goto (tgt := 19) hx hb d_It_compare_6 (by decide) ?_
    exact x_iret hx hb hr hlocks (by rw [g_cmp, if_pos (Int32.not_le.mp c1)]) rfl (fun q hq => by cases hq) (Nat.le_refl _) (Nat.le_refl _) d_It_compare_19
set_option maxHeartbeats 4000000 in
set_option maxRecDepth 100000 in
theorem c_By_order (l : Launch) {D : va_G} {A : Nat → ClassId} {H0 : Heap} {M : Nat → Prop} {a b : Nat} {us vs : List Nat} (h : g_bs D A M a us H0) (g : g_bs D A M b vs H0) : Met l y_By_order w_By_order { frames := 0, cells := 0, slots := 0, locals := 0 } (x_Pc D A [.ref a, .ref b] H0) (x_Q (some (.int (g_po us vs))) (fun H1 => H1 = H0)) 0 0 (fun _ => False) := by
  refine Met.ofW (cc := prog_2_method_4_code) (maxL := 5) (ret := (some .int)) (by decide) rfl ?_
  intro p e s m args below meth c s₁ B hml hv
  obtain ⟨rfl, hH, hK, hN⟩ := hv
  obtain ⟨hx, hb, hr, htb, hown, hlocks⟩ := x_start (wd := Cond.code y_By_order prog_2_method_4_code 5 (some .int)) B
  have hl := lv_entry ([.ref a, .ref b]) (n := 5) (Nat.le_of_ble_eq_true rfl)
  rw [lg_entry_eq]
  generalize (lg_sl ([.ref a, .ref b]) ++ List.replicate (5 - (lg_sl ([.ref a, .ref b])).length) Slot.unset).toArray = ls at hl ⊢
  have hl : lv_has ls 5 [(0, .ref a), (1, .ref b)] := hl
  rw [hH]
  obtain ⟨r, h1, h2, h3, h4, h5, h6⟩ := h
  obtain ⟨t, g1, g2, g3, g4, g5, g6⟩ := g
  refine lv_iconst (v := 0) hx hb d_By_order_0 (by decide) ?_
  refine lv_istore_n (lv' := [(2, .int 0), (0, .ref a), (1, .ref b)]) hx hb d_By_order_1 rfl hl (by decide) rfl (fun ls hl => ?_)
  refine x_loop (σ := Nat × Array Slot) (fun z => F0 m 2 z.2 []) (fun _ => H0) (fun _ => []) (fun z => z.1 ≤ us.length ∧ z.1 ≤ vs.length ∧ g_po us vs = g_po (us.drop z.1) (vs.drop z.1) ∧ lv_has z.2 5 [(2, .int (nI z.1)), (0, .ref a), (1, .ref b)]) (fun z => us.length - z.1) (s0 := (0, ls)) ⟨Nat.zero_le _, Nat.zero_le _, rfl, hl⟩ ?_
  rintro ⟨k, ls⟩ ⟨hk1, hk2, hpo, hl⟩ ih
  dsimp only at hk1 hk2 hpo hl ih ⊢
  refine lv_iload_n hx hb d_By_order_2 rfl (lv_at hl 0 rfl) ?_
  refine lv_aload_n hx hb d_By_order_3 rfl (lv_at hl 1 rfl) ?_
  refine x_get (ci := 0) (T := T_By) hx hb htb u_By hown hK h1 rfl 0 (by decide) (htb _ mw_81) (fun _ h9 => h9) (v := .ref r) rfl d_By_order_4 ?_
  refine x_alen hx hb hK 0 h2 rfl (v := nI us.length) rfl d_By_order_7 ?_
  refine lv_icmp_ge (tgt := 81) hx hb d_By_order_8 (by decide) (fun c1 => ?_) (fun c1 => ?_)
  · have e1 : us.drop k = [] := List.drop_eq_nil_of_le (Nat.le_of_not_lt fun q => absurd c1 (nI_ge q (by omega)))
    have e2 : k = us.length := Nat.le_antisymm hk1 (Nat.le_of_not_lt fun q => absurd c1 (nI_ge q (by omega)))
    refine lv_aload_n hx hb d_By_order_81 rfl (lv_at hl 1 rfl) ?_
    refine x_get (ci := 0) (T := T_By) hx hb htb u_By hown hK h1 rfl 0 (by decide) (htb _ mw_81) (fun _ h9 => h9) (v := .ref r) rfl d_By_order_82 ?_
    refine x_alen hx hb hK 0 h2 rfl (v := nI us.length) rfl d_By_order_85 ?_
    refine lv_aload_n hx hb d_By_order_86 rfl (lv_at hl 2 rfl) ?_
    refine x_get (ci := 0) (T := T_By) hx hb htb u_By hown hK g1 rfl 0 (by decide) (htb _ mw_81) (fun _ h9 => h9) (v := .ref t) rfl d_By_order_87 ?_
    refine x_alen hx hb hK 0 g2 rfl (v := nI vs.length) rfl d_By_order_90 ?_
    refine lv_isub hx hb d_By_order_91 ?_
    exact x_iret hx hb hr hlocks (by rw [hpo, e1]; exact g_po_nil e2 hk2) rfl (fun q hq => by cases hq) (Nat.le_refl _) (Nat.le_refl _) d_By_order_92
  · have hlt : k < us.length := Nat.lt_of_not_le fun q => absurd (nI_le q (by omega)) c1
    refine lv_iload_n hx hb d_By_order_11 rfl (lv_at hl 0 rfl) ?_
    refine lv_aload_n hx hb d_By_order_12 rfl (lv_at hl 2 rfl) ?_
    refine x_get (ci := 0) (T := T_By) hx hb htb u_By hown hK g1 rfl 0 (by decide) (htb _ mw_81) (fun _ h9 => h9) (v := .ref t) rfl d_By_order_13 ?_
    refine x_alen hx hb hK 0 g2 rfl (v := nI vs.length) rfl d_By_order_16 ?_
    refine lv_icmp_ge (tgt := 81) hx hb d_By_order_17 (by decide) (fun c2 => ?_) (fun c2 => ?_)
    · have e2 : k = vs.length := Nat.le_antisymm hk2 (Nat.le_of_not_lt fun q => absurd c2 (nI_ge q (by omega)))
      refine lv_aload_n hx hb d_By_order_81 rfl (lv_at hl 1 rfl) ?_
      refine x_get (ci := 0) (T := T_By) hx hb htb u_By hown hK h1 rfl 0 (by decide) (htb _ mw_81) (fun _ h9 => h9) (v := .ref r) rfl d_By_order_82 ?_
      refine x_alen hx hb hK 0 h2 rfl (v := nI us.length) rfl d_By_order_85 ?_
      refine lv_aload_n hx hb d_By_order_86 rfl (lv_at hl 2 rfl) ?_
      refine x_get (ci := 0) (T := T_By) hx hb htb u_By hown hK g1 rfl 0 (by decide) (htb _ mw_81) (fun _ h9 => h9) (v := .ref t) rfl d_By_order_87 ?_
      refine x_alen hx hb hK 0 g2 rfl (v := nI vs.length) rfl d_By_order_90 ?_
      refine lv_isub hx hb d_By_order_91 ?_
      exact x_iret hx hb hr hlocks (by rw [hpo]; exact g_po_nil2 e2 hk1) rfl (fun q hq => by cases hq) (Nat.le_refl _) (Nat.le_refl _) d_By_order_92
    · have hlt2 : k < vs.length := Nat.lt_of_not_le fun q => absurd (nI_le q (by omega)) c2
      have hst := g_po_step hlt hlt2
      rw [← hpo] at hst
      have hd1 := g_u h5 k
      have hd2 := g_u g5 k
      generalize hu : us.getD k 0 = u at hst hd1
      generalize hvv : vs.getD k 0 = v at hst hd2
      refine lv_aload_n hx hb d_By_order_20 rfl (lv_at hl 1 rfl) ?_
      refine x_get (ci := 0) (T := T_By) hx hb htb u_By hown hK h1 rfl 0 (by decide) (htb _ mw_81) (fun _ h9 => h9) (v := .ref r) rfl d_By_order_21 ?_
      refine lv_iload_n hx hb d_By_order_24 rfl (lv_at hl 0 rfl) ?_
      refine x_bald hx hb hK 0 h2 rfl (vp_in_nI hlt (by omega)) d_By_order_25 ?_
      refine x_top (y := sb_b u) (by rw [nI_clamp (by omega), hu]) ?_
      refine lv_sipush (v := 255) hx hb d_By_order_26 (by decide) ?_
      refine lv_iand hx hb d_By_order_29 ?_
      refine x_top (y := nI u) ((sb_byte u hd1).1) ?_
      refine lv_istore_n (lv' := [(3, .int (nI u)), (2, .int (nI k)), (0, .ref a), (1, .ref b)]) hx hb d_By_order_30 rfl hl (by decide) rfl (fun ls hl => ?_)
      refine lv_aload_n hx hb d_By_order_31 rfl (lv_at hl 3 rfl) ?_
      refine x_get (ci := 0) (T := T_By) hx hb htb u_By hown hK g1 rfl 0 (by decide) (htb _ mw_81) (fun _ h9 => h9) (v := .ref t) rfl d_By_order_32 ?_
      refine lv_iload_n hx hb d_By_order_35 rfl (lv_at hl 1 rfl) ?_
      refine x_bald hx hb hK 0 g2 rfl (vp_in_nI hlt2 (by omega)) d_By_order_36 ?_
      refine x_top (y := sb_b v) (by rw [nI_clamp (by omega), hvv]) ?_
      refine lv_sipush (v := 255) hx hb d_By_order_37 (by decide) ?_
      refine lv_iand hx hb d_By_order_40 ?_
      refine x_top (y := nI v) ((sb_byte v hd2).1) ?_
      refine lv_istore (lv' := [(4, .int (nI v)), (3, .int (nI u)), (2, .int (nI k)), (0, .ref a), (1, .ref b)]) hx hb d_By_order_41 hl (by decide) rfl (fun ls hl => ?_)
      refine lv_iload_n hx hb d_By_order_43 rfl (lv_at hl 1 rfl) ?_
      refine lv_iload hx hb d_By_order_44 (lv_at hl 0 rfl) ?_
      refine lv_icmp_eq (tgt := 75) hx hb d_By_order_46 (by decide) (fun c3 => ?_) (fun c3 => ?_)
      · have e3 : u = v := (nI_eq (by omega) (by omega)).mp c3
        refine lv_iinc (v := nI (k + 1)) (lv' := [(2, .int (nI (k + 1))), (4, .int (nI v)), (3, .int (nI u)), (0, .ref a), (1, .ref b)]) hx hb d_By_order_75 hl (k := 2) rfl (nI_1 k) (by decide) rfl (fun ls hl => ?_)
        refine lv_goto (tgt := 2) hx hb d_By_order_78 (by decide) ?_
        exact ih (k + 1, ls) ⟨hlt, hlt2, by rw [hst, if_pos e3], (lv_sub hl [0, 3, 4] rfl)⟩ (by show us.length - (k + 1) < us.length - k; omega)
      · have e3 : ¬ u = v := fun e => c3 (by rw [e])
        refine lv_iload_n hx hb d_By_order_49 rfl (lv_at hl 1 rfl) ?_
        refine lv_bipush (v := 47) hx hb d_By_order_50 (by decide) ?_
        refine lv_icmp_ne (tgt := 59) hx hb d_By_order_52 (by decide) (fun c4 => ?_) (fun c4 => ?_)
        · have e4 : ¬ u = 47 := fun e => c4 (by rw [e]; rfl)
          refine lv_iload hx hb d_By_order_59 (lv_at hl 0 rfl) ?_
          refine lv_bipush (v := 47) hx hb d_By_order_61 (by decide) ?_
          refine lv_icmp_ne (tgt := 70) hx hb d_By_order_63 (by decide) (fun c5 => ?_) (fun c5 => ?_)
          · have e5 : ¬ v = 47 := fun e => c5 (by rw [e]; rfl)
            refine lv_iload_n hx hb d_By_order_70 rfl (lv_at hl 1 rfl) ?_
            refine lv_iload hx hb d_By_order_71 (lv_at hl 0 rfl) ?_
            refine lv_isub hx hb d_By_order_73 ?_
            exact x_iret hx hb hr hlocks (by rw [hst, if_neg e3, if_neg e4, if_neg e5]) rfl (fun q hq => by cases hq) (Nat.le_refl _) (Nat.le_refl _) d_By_order_74
          · have e5 : v = 47 := (nI_eq (by omega) (by omega)).mp c5
            refine lv_iconst (v := 1) hx hb d_By_order_66 (by decide) ?_
            refine lv_goto (tgt := 74) hx hb d_By_order_67 (by decide) ?_
            exact x_iret hx hb hr hlocks (by rw [hst, if_neg e3, if_neg e4, if_pos e5]) rfl (fun q hq => by cases hq) (Nat.le_refl _) (Nat.le_refl _) d_By_order_74
        · have e4 : u = 47 := (nI_eq (by omega) (by omega)).mp c4
          refine lv_iconst (v := (-1)) hx hb d_By_order_55 (by decide) ?_
          refine lv_goto (tgt := 74) hx hb d_By_order_56 (by decide) ?_
          exact x_iret hx hb hr hlocks (by rw [hst, if_neg e3, if_pos e4]) rfl (fun q hq => by cases hq) (Nat.le_refl _) (Nat.le_refl _) d_By_order_74
end
section
/-! FILES: rows of references, by the list of their addresses; the files that lie there -/
/-- the first places of a row -/
def g_row (g : Nat → Option Nat) (as : List Nat) : Prop := ∀ (j a : Nat), as[j]? = some a → g j = some a
/-- an object with a row of references and a length: ci its class, t the row's, n the row's size -/
def g_fr (D : va_G) (A : Nat → ClassId) (ci t n h r : Nat) (as : List Nat) (H : Heap) : Prop :=
  ∃ g : Nat → Option Nat, va_at D x_cl (h, .inr (ci, [.ref r, .int (nI as.length)])) H ∧ va_at D x_cl (r, .inl (A t, n, .inr (.inr (.inr (.inr g))))) H ∧ g_row g as ∧ as.length ≤ n
/-- files at these addresses -/
def g_fs (D : va_G) (A : Nat → ClassId) (M : Nat → Prop) (as : List Nat) (fs : List g_F) (H : Heap) : Prop := as.length = fs.length ∧ ∀ (j a : Nat) (f : g_F), as[j]? = some a → fs[j]? = some f → g_sf D A M a f H
def g_os (D : va_G) (A : Nat → ClassId) (M : Nat → Prop) (as : List Nat) (os : List g_O) (H : Heap) : Prop := as.length = os.length ∧ ∀ (j a : Nat) (f : g_O), as[j]? = some a → os[j]? = some f → g_op D A M a f H
theorem g_fs.kept {D : va_G} {A : Nat → ClassId} {M N : Nat → Prop} {as : List Nat} {fs : List g_F} {H H1 : Heap} (h : g_fs D A M as fs H) (hk : g_K N H H1) (hNM : ∀ q, N q → M q := by first | exact fun _ h => h | exact fun _ h => h.elim Or.inl (fun h => Or.inr (Or.inl h))) : g_fs D A M as fs H1 := ⟨h.1, fun j a f h1 h2 => (h.2 j a f h1 h2).kept hk hNM⟩
theorem g_os.kept {D : va_G} {A : Nat → ClassId} {M N : Nat → Prop} {as : List Nat} {os : List g_O} {H H1 : Heap} (h : g_os D A M as os H) (hk : g_K N H H1) (hNM : ∀ q, N q → M q := by first | exact fun _ h => h | exact fun _ h => h.elim Or.inl (fun h => Or.inr (Or.inl h))) : g_os D A M as os H1 := ⟨h.1, fun j a f h1 h2 => (h.2 j a f h1 h2).kept hk hNM⟩
/-- H1 is H but for two cells -/
def x_but2 (a b : Nat) (H H1 : Heap) : Prop := H1.size = H.size ∧ ∀ q : Nat, q ≠ a → q ≠ b → H1[q]? = H[q]?
theorem x_but2.refl {a b : Nat} {H : Heap} : x_but2 a b H H := ⟨rfl, fun _ _ _ => rfl⟩
theorem x_but2.trans {a b : Nat} {H H1 H2 : Heap} (h : x_but2 a b H H1) (h2 : x_but2 a b H1 H2) : x_but2 a b H H2 := ⟨h2.1.trans h.1, fun q h3 h4 => (h2.2 q h3 h4).trans (h.2 q h3 h4)⟩
theorem x_but2.l {a b : Nat} {H H1 : Heap} (h : x_but a H H1) : x_but2 a b H H1 := ⟨h.1, fun q h3 _ => h.2 q h3⟩
theorem x_but2.r {a b : Nat} {H H1 : Heap} (h : x_but b H H1) : x_but2 a b H H1 := ⟨h.1, fun q _ h4 => h.2 q h4⟩
theorem x_but2.K {M : Nat → Prop} {a b : Nat} {H H1 : Heap} (h : x_but2 a b H H1) (ha : M a) (hb : M b) : g_K M H H1 := ⟨Nat.le_of_eq h.1.symm, fun q _ hM => h.2 q (fun e => hM (e ▸ ha)) (fun e => hM (e ▸ hb))⟩
/-- where the file of a name lies -/
def g_find (fs : List g_F) (n : g_N) : Option Nat := fs.findIdx? (fun f => decide (g_no n f.1 = 0))
def g_ixv : Option Nat → Int32
  | some i => nI i
  | none => -1
theorem g_find_some {fs : List g_F} {n : g_N} {i : Nat} {f : g_F} (h : ∀ (j : Nat) (f : g_F), j < i → fs[j]? = some f → ¬ g_no n f.1 = 0) (hf : fs[i]? = some f) (h0 : g_no n f.1 = 0) : g_find fs n = some i := by
  obtain ⟨hi, e⟩ := List.getElem?_eq_some_iff.mp hf
  refine List.findIdx?_eq_some_iff_getElem.mpr ⟨hi, by rw [e]; exact decide_eq_true h0, fun j hj => ?_⟩
  have h1 := h j _ hj (List.getElem?_eq_getElem (by omega))
  simpa using h1
theorem g_find_none {fs : List g_F} {n : g_N} (h : ∀ (j : Nat) (f : g_F), j < fs.length → fs[j]? = some f → ¬ g_no n f.1 = 0) : g_find fs n = none := by
  refine List.findIdx?_eq_none_iff.mpr (fun f hf => ?_)
  obtain ⟨j, hj⟩ := List.getElem?_of_mem hf
  exact decide_eq_false (h j f (List.getElem?_eq_some_iff.mp hj).1 hj)
theorem g_ex {α : Type} {as : List α} {j : Nat} (h : j < as.length) : ∃ a, as[j]? = some a := ⟨_, List.getElem?_eq_getElem h⟩
set_option maxHeartbeats 4000000 in
set_option maxRecDepth 100000 in
theorem c_Nm_order (l : Launch) {D : va_G} {A : Nat → ClassId} {H0 : Heap} {M : Nat → Prop} {a b : Nat} {n o : g_N} (h : g_nm D A M a n H0) (g : g_nm D A M b o H0) : Met l y_Nm_order w_Nm_order { frames := 1, cells := 0, slots := 0, locals := 24 } (x_Pc D A [.ref a, .ref b] H0) (x_Q (some (.int (g_no n o))) (fun H1 => H1 = H0)) 0 0 (fun _ => False) := by
  refine Met.ofW (cc := prog_5_method_2_code) (maxL := 2) (ret := (some .int)) (by decide) rfl ?_
  intro p e s m args below meth c s₁ B hml hv
  obtain ⟨rfl, hH, hK, hN⟩ := hv
  obtain ⟨hx, hb, hr, htb, hown, hlocks⟩ := x_start (wd := Cond.code y_Nm_order prog_5_method_2_code 2 (some .int)) B
  have hl := lv_entry ([.ref a, .ref b]) (n := 2) (Nat.le_of_ble_eq_true rfl)
  rw [lg_entry_eq]
  generalize (lg_sl ([.ref a, .ref b]) ++ List.replicate (2 - (lg_sl ([.ref a, .ref b])).length) Slot.unset).toArray = ls at hl ⊢
  have hl : lv_has ls 2 [(0, .ref a), (1, .ref b)] := hl
  rw [hH]
  obtain ⟨pa, h1, h2, h3⟩ := h
  obtain ⟨pb, g1, g2, g3⟩ := g
  obtain ⟨r1, h4, h4r⟩ := id h3
  refine lv_aload_n hx hb d_Nm_order_0 rfl (lv_at hl 0 rfl) ?_
  refine x_get (ci := 1) (T := T_Nm) hx hb htb u_Nm hown hK h1 rfl 0 (by decide) (htb _ mw_141) (fun _ h9 => h9) (v := .int n.1) rfl d_Nm_order_1 ?_
  refine lv_aload_n hx hb d_Nm_order_4 rfl (lv_at hl 1 rfl) ?_
  refine x_get (ci := 1) (T := T_Nm) hx hb htb u_Nm hown hK g1 rfl 0 (by decide) (htb _ mw_141) (fun _ h9 => h9) (v := .int o.1) rfl d_Nm_order_5 ?_
  refine lv_icmp_eq (tgt := 23) hx hb d_Nm_order_8 (by decide) (fun c1 => ?_) (fun c1 => ?_)
  · refine lv_aload_n hx hb d_Nm_order_23 rfl (lv_at hl 0 rfl) ?_
    refine x_get (ci := 1) (T := T_Nm) hx hb htb u_Nm hown hK h1 rfl 1 (by decide) (htb _ mw_143) (fun _ h9 => h9) (v := .int n.2.1) rfl d_Nm_order_24 ?_
    refine lv_aload_n hx hb d_Nm_order_27 rfl (lv_at hl 1 rfl) ?_
    refine x_get (ci := 1) (T := T_Nm) hx hb htb u_Nm hown hK g1 rfl 1 (by decide) (htb _ mw_143) (fun _ h9 => h9) (v := .int o.2.1) rfl d_Nm_order_28 ?_
    refine lv_icmp_eq (tgt := 46) hx hb d_Nm_order_31 (by decide) (fun c2 => ?_) (fun c2 => ?_)
    · refine lv_aload_n hx hb d_Nm_order_46 rfl (lv_at hl 0 rfl) ?_
      refine x_get (ci := 1) (T := T_Nm) hx hb htb u_Nm hown hK h1 rfl 2 (by decide) (htb _ mw_145) (fun _ h9 => h9) (v := .ref pa) rfl d_Nm_order_47 ?_
      refine lv_aload_n hx hb d_Nm_order_50 rfl (lv_at hl 1 rfl) ?_
      refine x_get (ci := 1) (T := T_Nm) hx hb htb u_Nm hown hK g1 rfl 2 (by decide) (htb _ mw_145) (fun _ h9 => h9) (v := .ref pb) rfl d_Nm_order_51 ?_
      refine x_callP (va_runV (As := [.ref pb]) (rest := []) ⟨hx, hb, hml, hown, htb⟩ (c_By_order l h3 g3) (x_cV 1 htb mw_169 mw_5 mw_172 mw_170 mw_171 rfl rfl (by decide +kernel) ⟨Nat.le_of_ble_eq_true rfl, Nat.le_of_ble_eq_true rfl⟩) (x_preV hK hN h4 rfl) rfl rfl hl.1 rfl (lv_room (Nat.le_of_ble_eq_true rfl)) d_Nm_order_54 ⟨Nat.le_of_ble_eq_true rfl, Nat.le_of_ble_eq_true rfl⟩) ?_
      refine W.eq (g2 := F0 m 57 ls [.int (g_po n.2.2 o.2.2)]) rfl ?_
      exact x_iret hx hb hr hlocks (by rw [g_no, if_pos c1, if_pos c2]) rfl (fun q hq => by cases hq) (Nat.le_refl _) (Nat.le_refl _) d_Nm_order_57
    · refine lv_aload_n hx hb d_Nm_order_34 rfl (lv_at hl 0 rfl) ?_
      refine x_get (ci := 1) (T := T_Nm) hx hb htb u_Nm hown hK h1 rfl 1 (by decide) (htb _ mw_143) (fun _ h9 => h9) (v := .int n.2.1) rfl d_Nm_order_35 ?_
      refine lv_aload_n hx hb d_Nm_order_38 rfl (lv_at hl 1 rfl) ?_
      refine x_get (ci := 1) (T := T_Nm) hx hb htb u_Nm hown hK g1 rfl 1 (by decide) (htb _ mw_143) (fun _ h9 => h9) (v := .int o.2.1) rfl d_Nm_order_39 ?_
      refine x_callP (va_runS (As := [.int n.2.1, .int o.2.1]) (rest := []) ⟨hx, hb, hml, hown, htb⟩ (c_It_compare l n.2.1 o.2.1) (x_cS 2 htb mw_166 mw_16 mw_168 mw_167 rfl rfl (by decide +kernel) ⟨Nat.le_of_ble_eq_true rfl, Nat.le_of_ble_eq_true rfl⟩) (x_preS hK hN) rfl rfl hl.1 rfl (lv_room (Nat.le_of_ble_eq_true rfl)) d_Nm_order_42 ⟨Nat.le_of_ble_eq_true rfl, Nat.le_of_ble_eq_true rfl⟩) ?_
      refine W.eq (g2 := F0 m 45 ls [.int (g_cmp n.2.1 o.2.1)]) rfl ?_
      exact x_iret hx hb hr hlocks (by rw [g_no, if_pos c1, if_neg c2]) rfl (fun q hq => by cases hq) (Nat.le_refl _) (Nat.le_refl _) d_Nm_order_45
  · refine lv_aload_n hx hb d_Nm_order_11 rfl (lv_at hl 0 rfl) ?_
    refine x_get (ci := 1) (T := T_Nm) hx hb htb u_Nm hown hK h1 rfl 0 (by decide) (htb _ mw_141) (fun _ h9 => h9) (v := .int n.1) rfl d_Nm_order_12 ?_
    refine lv_aload_n hx hb d_Nm_order_15 rfl (lv_at hl 1 rfl) ?_
    refine x_get (ci := 1) (T := T_Nm) hx hb htb u_Nm hown hK g1 rfl 0 (by decide) (htb _ mw_141) (fun _ h9 => h9) (v := .int o.1) rfl d_Nm_order_16 ?_
    refine x_callP (va_runS (As := [.int n.1, .int o.1]) (rest := []) ⟨hx, hb, hml, hown, htb⟩ (c_It_compare l n.1 o.1) (x_cS 2 htb mw_166 mw_16 mw_168 mw_167 rfl rfl (by decide +kernel) ⟨Nat.le_of_ble_eq_true rfl, Nat.le_of_ble_eq_true rfl⟩) (x_preS hK hN) rfl rfl hl.1 rfl (lv_room (Nat.le_of_ble_eq_true rfl)) d_Nm_order_19 ⟨Nat.le_of_ble_eq_true rfl, Nat.le_of_ble_eq_true rfl⟩) ?_
    refine W.eq (g2 := F0 m 22 ls [.int (g_cmp n.1 o.1)]) rfl ?_
    exact x_iret hx hb hr hlocks (by rw [g_no, if_neg c1]) rfl (fun q hq => by cases hq) (Nat.le_refl _) (Nat.le_refl _) d_Nm_order_22
set_option maxHeartbeats 4000000 in
set_option maxRecDepth 100000 in
theorem c_Fi_isFull (l : Launch) {D : va_G} {A : Nat → ClassId} {H0 : Heap} {h r : Nat} {as : List Nat} (hf : g_fr D A 5 1 60 h r as H0) : Met l y_Fi_isFull w_Fi_isFull { frames := 0, cells := 0, slots := 0, locals := 0 } (x_Pc D A [.ref h] H0) (x_Q (some (.int (if 60 ≤ as.length then 1 else 0))) (fun H1 => H1 = H0)) 0 0 (fun _ => False) := by
  refine Met.ofW (cc := prog_3_method_2_code) (maxL := 1) (ret := (some .boolean)) (by decide) rfl ?_
  intro p e s m args below meth c s₁ B hml hv
  obtain ⟨rfl, hH, hK, hN⟩ := hv
  obtain ⟨hx, hb, hr, htb, hown, hlocks⟩ := x_start (wd := Cond.code y_Fi_isFull prog_3_method_2_code 1 (some .boolean)) B
  have hl := lv_entry ([.ref h]) (n := 1) (Nat.le_of_ble_eq_true rfl)
  rw [lg_entry_eq]
  generalize (lg_sl ([.ref h]) ++ List.replicate (1 - (lg_sl ([.ref h])).length) Slot.unset).toArray = ls at hl ⊢
  have hl : lv_has ls 1 [(0, .ref h)] := hl
  rw [hH]
  obtain ⟨g, h1, h2, h3, h4⟩ := hf
  refine lv_aload_n hx hb d_Fi_isFull_0 rfl (lv_at hl 0 rfl) ?_
  refine x_get (ci := 5) (T := T_Fi) hx hb htb u_Fi hown hK h1 rfl 1 (by decide) (htb _ mw_52) (fun _ h9 => h9) (v := .int (nI as.length)) rfl d_Fi_isFull_1 ?_
  refine lv_aload_n hx hb d_Fi_isFull_4 rfl (lv_at hl 0 rfl) ?_
  refine x_get (ci := 5) (T := T_Fi) hx hb htb u_Fi hown hK h1 rfl 0 (by decide) (htb _ mw_51) (fun _ h9 => h9) (v := .ref r) rfl d_Fi_isFull_5 ?_
  refine x_alen hx hb hK 1 h2 rfl (v := nI 60) rfl d_Fi_isFull_8 ?_
  refine lv_icmp_lt (tgt := 16) hx hb d_Fi_isFull_9 (by decide) (fun c1 => ?_) (fun c1 => ?_)
  · refine lv_iconst (v := 0) hx hb d_Fi_isFull_16 (by decide) ?_
    exact x_zret hx hb hr hlocks (by rw [if_neg (fun q => absurd c1 (nI_nlt q (by omega)))]) (by decide) rfl (fun q hq => by cases hq) (Nat.le_refl _) (Nat.le_refl _) d_Fi_isFull_17
  · refine lv_iconst (v := 1) hx hb d_Fi_isFull_12 (by decide) ?_
    refine lv_goto (tgt := 17) hx hb d_Fi_isFull_13 (by decide) ?_
    exact x_zret hx hb hr hlocks (by rw [if_pos (Nat.le_of_not_lt fun q => c1 (nI_lt q (by omega)))]) (by decide) rfl (fun q hq => by cases hq) (Nat.le_refl _) (Nat.le_refl _) d_Fi_isFull_17
set_option maxHeartbeats 4000000 in
set_option maxRecDepth 100000 in
theorem c_Jo_isFull (l : Launch) {D : va_G} {A : Nat → ClassId} {H0 : Heap} {h r : Nat} {as : List Nat} (hf : g_fr D A 6 2 200 h r as H0) : Met l y_Jo_isFull w_Jo_isFull { frames := 0, cells := 0, slots := 0, locals := 0 } (x_Pc D A [.ref h] H0) (x_Q (some (.int (if 200 ≤ as.length then 1 else 0))) (fun H1 => H1 = H0)) 0 0 (fun _ => False) := by
  refine Met.ofW (cc := prog_4_method_2_code) (maxL := 1) (ret := (some .boolean)) (by decide) rfl ?_
  intro p e s m args below meth c s₁ B hml hv
  obtain ⟨rfl, hH, hK, hN⟩ := hv
  obtain ⟨hx, hb, hr, htb, hown, hlocks⟩ := x_start (wd := Cond.code y_Jo_isFull prog_4_method_2_code 1 (some .boolean)) B
  have hl := lv_entry ([.ref h]) (n := 1) (Nat.le_of_ble_eq_true rfl)
  rw [lg_entry_eq]
  generalize (lg_sl ([.ref h]) ++ List.replicate (1 - (lg_sl ([.ref h])).length) Slot.unset).toArray = ls at hl ⊢
  have hl : lv_has ls 1 [(0, .ref h)] := hl
  rw [hH]
  obtain ⟨g, h1, h2, h3, h4⟩ := hf
  refine lv_aload_n hx hb d_Jo_isFull_0 rfl (lv_at hl 0 rfl) ?_
  refine x_get (ci := 6) (T := T_Jo) hx hb htb u_Jo hown hK h1 rfl 1 (by decide) (htb _ mw_68) (fun _ h9 => h9) (v := .int (nI as.length)) rfl d_Jo_isFull_1 ?_
  refine lv_aload_n hx hb d_Jo_isFull_4 rfl (lv_at hl 0 rfl) ?_
  refine x_get (ci := 6) (T := T_Jo) hx hb htb u_Jo hown hK h1 rfl 0 (by decide) (htb _ mw_67) (fun _ h9 => h9) (v := .ref r) rfl d_Jo_isFull_5 ?_
  refine x_alen hx hb hK 2 h2 rfl (v := nI 200) rfl d_Jo_isFull_8 ?_
  refine lv_icmp_lt (tgt := 16) hx hb d_Jo_isFull_9 (by decide) (fun c1 => ?_) (fun c1 => ?_)
  · refine lv_iconst (v := 0) hx hb d_Jo_isFull_16 (by decide) ?_
    exact x_zret hx hb hr hlocks (by rw [if_neg (fun q => absurd c1 (nI_nlt q (by omega)))]) (by decide) rfl (fun q hq => by cases hq) (Nat.le_refl _) (Nat.le_refl _) d_Jo_isFull_17
  · refine lv_iconst (v := 1) hx hb d_Jo_isFull_12 (by decide) ?_
    refine lv_goto (tgt := 17) hx hb d_Jo_isFull_13 (by decide) ?_
    exact x_zret hx hb hr hlocks (by rw [if_pos (Nat.le_of_not_lt fun q => c1 (nI_lt q (by omega)))]) (by decide) rfl (fun q hq => by cases hq) (Nat.le_refl _) (Nat.le_refl _) d_Jo_isFull_17
set_option maxHeartbeats 4000000 in
set_option maxRecDepth 100000 in
theorem c_Fi_nth (l : Launch) {D : va_G} {A : Nat → ClassId} {H0 : Heap} {h r : Nat} {as : List Nat} (hf : g_fr D A 5 1 60 h r as H0) {j a : Nat} (hj : as[j]? = some a) : Met l y_Fi_nth w_Fi_nth { frames := 0, cells := 0, slots := 0, locals := 0 } (x_Pc D A [.ref h, .int (nI j)] H0) (x_Q (some (.ref a)) (fun H1 => H1 = H0)) 0 0 (fun _ => False) := by
  refine Met.ofW (cc := prog_3_method_3_code) (maxL := 2) (ret := (some (.object "BreakingDisk$StoredFile"))) (by decide) rfl ?_
  intro p e s m args below meth c s₁ B hml hv
  obtain ⟨rfl, hH, hK, hN⟩ := hv
  obtain ⟨hx, hb, hr, htb, hown, hlocks⟩ := x_start (wd := Cond.code y_Fi_nth prog_3_method_3_code 2 (some (.object "BreakingDisk$StoredFile"))) B
  have hl := lv_entry ([.ref h, .int (nI j)]) (n := 2) (Nat.le_of_ble_eq_true rfl)
  rw [lg_entry_eq]
  generalize (lg_sl ([.ref h, .int (nI j)]) ++ List.replicate (2 - (lg_sl ([.ref h, .int (nI j)])).length) Slot.unset).toArray = ls at hl ⊢
  have hl : lv_has ls 2 [(0, .ref h), (1, .int (nI j))] := hl
  rw [hH]
  obtain ⟨g, h1, h2, h3, h4⟩ := hf
  have hlt : j < as.length := (List.getElem?_eq_some_iff.mp hj).1
  refine lv_iload_n hx hb d_Fi_nth_0 rfl (lv_at hl 1 rfl) ?_
  refine lv_if_lt (tgt := 21) hx hb d_Fi_nth_1 (by decide) (fun c9 => absurd c9 (nI_pos (by omega))) (fun _ => ?_)
  refine lv_iload_n hx hb d_Fi_nth_4 rfl (lv_at hl 1 rfl) ?_
  refine lv_aload_n hx hb d_Fi_nth_5 rfl (lv_at hl 0 rfl) ?_
  refine x_get (ci := 5) (T := T_Fi) hx hb htb u_Fi hown hK h1 rfl 1 (by decide) (htb _ mw_52) (fun _ h9 => h9) (v := .int (nI as.length)) rfl d_Fi_nth_6 ?_
  refine lv_icmp_ge (tgt := 21) hx hb d_Fi_nth_9 (by decide) (fun c9 => absurd c9 (nI_ge hlt (by omega))) (fun _ => ?_)
  refine lv_aload_n hx hb d_Fi_nth_12 rfl (lv_at hl 0 rfl) ?_
  refine x_get (ci := 5) (T := T_Fi) hx hb htb u_Fi hown hK h1 rfl 0 (by decide) (htb _ mw_51) (fun _ h9 => h9) (v := .ref r) rfl d_Fi_nth_13 ?_
  refine lv_iload_n hx hb d_Fi_nth_16 rfl (lv_at hl 1 rfl) ?_
  refine x_aldq hx hb hK 1 h2 rfl (vp_in_nI (by omega) (by omega)) (r := .ref a) (by rw [nI_clamp (by omega), h3 j a hj]; rfl) d_Fi_nth_17 ?_
  refine lv_goto (tgt := 22) hx hb d_Fi_nth_18 (by decide) ?_
  exact x_aret hx hb hr (Or.inl ⟨_, rfl⟩) (Or.inr ⟨_, rfl⟩) hlocks rfl (fun q hq => by cases hq) (Nat.le_refl _) (Nat.le_refl _) d_Fi_nth_22
set_option maxHeartbeats 4000000 in
set_option maxRecDepth 100000 in
theorem c_Fi_nthN (l : Launch) {D : va_G} {A : Nat → ClassId} {H0 : Heap} {h r : Nat} {as : List Nat} (hf : g_fr D A 5 1 60 h r as H0) {x : Int32} (ho : x < 0 ∨ nI as.length ≤ x) : Met l y_Fi_nth w_Fi_nth { frames := 0, cells := 0, slots := 0, locals := 0 } (x_Pc D A [.ref h, .int x] H0) (x_Q (some .null) (fun H1 => H1 = H0)) 0 0 (fun _ => False) := by
  refine Met.ofW (cc := prog_3_method_3_code) (maxL := 2) (ret := (some (.object "BreakingDisk$StoredFile"))) (by decide) rfl ?_
  intro p e s m args below meth c s₁ B hml hv
  obtain ⟨rfl, hH, hK, hN⟩ := hv
  obtain ⟨hx, hb, hr, htb, hown, hlocks⟩ := x_start (wd := Cond.code y_Fi_nth prog_3_method_3_code 2 (some (.object "BreakingDisk$StoredFile"))) B
  have hl := lv_entry ([.ref h, .int x]) (n := 2) (Nat.le_of_ble_eq_true rfl)
  rw [lg_entry_eq]
  generalize (lg_sl ([.ref h, .int x]) ++ List.replicate (2 - (lg_sl ([.ref h, .int x])).length) Slot.unset).toArray = ls at hl ⊢
  have hl : lv_has ls 2 [(0, .ref h), (1, .int x)] := hl
  rw [hH]
  obtain ⟨g, h1, h2, h3, h4⟩ := hf
  refine lv_iload_n hx hb d_Fi_nth_0 rfl (lv_at hl 1 rfl) ?_
  refine lv_if_lt (tgt := 21) hx hb d_Fi_nth_1 (by decide) (fun c1 => ?_) (fun c1 => ?_)
  · refine lv_null hx hb d_Fi_nth_21 ?_
    exact x_aret hx hb hr (Or.inl ⟨_, rfl⟩) (Or.inl rfl) hlocks rfl (fun q hq => by cases hq) (Nat.le_refl _) (Nat.le_refl _) d_Fi_nth_22
  · refine lv_iload_n hx hb d_Fi_nth_4 rfl (lv_at hl 1 rfl) ?_
    refine lv_aload_n hx hb d_Fi_nth_5 rfl (lv_at hl 0 rfl) ?_
    refine x_get (ci := 5) (T := T_Fi) hx hb htb u_Fi hown hK h1 rfl 1 (by decide) (htb _ mw_52) (fun _ h9 => h9) (v := .int (nI as.length)) rfl d_Fi_nth_6 ?_
    refine lv_icmp_ge (tgt := 21) hx hb d_Fi_nth_9 (by decide) (fun _ => ?_) (fun c9 => absurd (ho.resolve_left c1) c9)
    refine lv_null hx hb d_Fi_nth_21 ?_
    exact x_aret hx hb hr (Or.inl ⟨_, rfl⟩) (Or.inl rfl) hlocks rfl (fun q hq => by cases hq) (Nat.le_refl _) (Nat.le_refl _) d_Fi_nth_22
set_option maxHeartbeats 4000000 in
set_option maxRecDepth 100000 in
theorem c_Fi_indexOf (l : Launch) {D : va_G} {A : Nat → ClassId} {H0 : Heap} {M : Nat → Prop} {h r b : Nat} {as : List Nat} {fs : List g_F} {n : g_N} (hf : g_fr D A 5 1 60 h r as H0) (hs : g_fs D A M as fs H0) (hn : g_nm D A M b n H0) : Met l y_Fi_indexOf w_Fi_indexOf { frames := 2, cells := 0, slots := 0, locals := 45 } (x_Pc D A [.ref h, .ref b] H0) (x_Q (some (.int (g_ixv (g_find fs n)))) (fun H1 => H1 = H0)) 0 0 (fun _ => False) := by
  refine Met.ofW (cc := prog_3_method_9_code) (maxL := 3) (ret := (some .int)) (by decide) rfl ?_
  intro p e s m args below meth c s₁ B hml hv
  obtain ⟨rfl, hH, hK, hN⟩ := hv
  obtain ⟨hx, hb, hr, htb, hown, hlocks⟩ := x_start (wd := Cond.code y_Fi_indexOf prog_3_method_9_code 3 (some .int)) B
  have hl := lv_entry ([.ref h, .ref b]) (n := 3) (Nat.le_of_ble_eq_true rfl)
  rw [lg_entry_eq]
  generalize (lg_sl ([.ref h, .ref b]) ++ List.replicate (3 - (lg_sl ([.ref h, .ref b])).length) Slot.unset).toArray = ls at hl ⊢
  have hl : lv_has ls 3 [(0, .ref h), (1, .ref b)] := hl
  rw [hH]
  obtain ⟨g, h1, h2, h3, h4⟩ := hf
  obtain ⟨pb, hn1, hn2, hn3⟩ := id hn
  refine lv_iconst (v := 0) hx hb d_Fi_indexOf_0 (by decide) ?_
  refine lv_istore_n (lv' := [(2, .int 0), (0, .ref h), (1, .ref b)]) hx hb d_Fi_indexOf_1 rfl hl (by decide) rfl (fun ls hl => ?_)
  refine x_loop (σ := Nat × Array Slot) (fun z => F0 m 2 z.2 []) (fun _ => H0) (fun _ => []) (fun z => z.1 ≤ as.length ∧ (∀ (j : Nat) (f : g_F), j < z.1 → fs[j]? = some f → ¬ g_no n f.1 = 0) ∧ lv_has z.2 3 [(2, .int (nI z.1)), (0, .ref h), (1, .ref b)]) (fun z => as.length - z.1) (s0 := (0, ls)) ⟨Nat.zero_le _, fun j f q => absurd q (Nat.not_lt_zero j), hl⟩ ?_
  rintro ⟨i, ls⟩ ⟨hi, hno, hl⟩ ih
  dsimp only at hi hno hl ih ⊢
  refine lv_iload_n hx hb d_Fi_indexOf_2 rfl (lv_at hl 0 rfl) ?_
  refine lv_aload_n hx hb d_Fi_indexOf_3 rfl (lv_at hl 1 rfl) ?_
  refine x_get (ci := 5) (T := T_Fi) hx hb htb u_Fi hown hK h1 rfl 1 (by decide) (htb _ mw_52) (fun _ h9 => h9) (v := .int (nI as.length)) rfl d_Fi_indexOf_4 ?_
  refine lv_icmp_ge (tgt := 34) hx hb d_Fi_indexOf_7 (by decide) (fun c1 => ?_) (fun c1 => ?_)
  · have e : i = as.length := Nat.le_antisymm hi (Nat.le_of_not_lt fun q => absurd c1 (nI_ge q (by omega)))
    refine lv_iconst (v := (-1)) hx hb d_Fi_indexOf_34 (by decide) ?_
    exact x_iret hx hb hr hlocks (by rw [g_find_none (fun j f q => hno j f (by rw [e, hs.1]; exact q))]; rfl) rfl (fun q hq => by cases hq) (Nat.le_refl _) (Nat.le_refl _) d_Fi_indexOf_35
  · have hlt : i < as.length := Nat.lt_of_not_le fun q => absurd (nI_le q (by omega)) c1
    obtain ⟨a, ha⟩ := g_ex hlt
    obtain ⟨f, hff⟩ := g_ex (as := fs) (j := i) (by rw [← hs.1]; exact hlt)
    obtain ⟨na, ca, f1, f2, f3, f4⟩ := hs.2 i a f ha hff
    refine lv_aload_n hx hb d_Fi_indexOf_10 rfl (lv_at hl 2 rfl) ?_
    refine lv_aload_n hx hb d_Fi_indexOf_11 rfl (lv_at hl 1 rfl) ?_
    refine x_get (ci := 5) (T := T_Fi) hx hb htb u_Fi hown hK h1 rfl 0 (by decide) (htb _ mw_51) (fun _ h9 => h9) (v := .ref r) rfl d_Fi_indexOf_12 ?_
    refine lv_iload_n hx hb d_Fi_indexOf_15 rfl (lv_at hl 0 rfl) ?_
    refine x_aldq hx hb hK 1 h2 rfl (vp_in_nI (by omega) (by omega)) (r := .ref a) (by rw [nI_clamp (by omega), h3 i a ha]; rfl) d_Fi_indexOf_16 ?_
    refine x_getN (ci := 2) (T := T_Sf) hx hb htb u_Sf hown hK f1 rfl 0 (by decide) (va_Nw.use rfl (hN.1 _ nf_376)) (fun _ h9 => h9) (v := .ref na) rfl d_Fi_indexOf_17 ?_
    refine x_callP (va_runV (As := [.ref na]) (rest := []) ⟨hx, hb, hml, hown, htb⟩ (c_Nm_order l hn f3) (x_cV 1 htb mw_162 mw_15 mw_165 mw_163 mw_164 rfl rfl (by decide +kernel) ⟨Nat.le_of_ble_eq_true rfl, Nat.le_of_ble_eq_true rfl⟩) (x_preV hK hN hn1 rfl) rfl rfl hl.1 rfl (lv_room (Nat.le_of_ble_eq_true rfl)) d_Fi_indexOf_20 ⟨Nat.le_of_ble_eq_true rfl, Nat.le_of_ble_eq_true rfl⟩) ?_
    refine W.eq (g2 := F0 m 23 ls [.int (g_no n f.1)]) rfl ?_
    refine lv_if_ne (tgt := 28) hx hb d_Fi_indexOf_23 (by decide) (fun c2 => ?_) (fun c2 => ?_)
    · refine lv_iinc (v := nI (i + 1)) (lv' := [(2, .int (nI (i + 1))), (0, .ref h), (1, .ref b)]) hx hb d_Fi_indexOf_28 hl (k := 0) rfl (nI_1 i) (by decide) rfl (fun ls hl => ?_)
      refine lv_goto (tgt := 2) hx hb d_Fi_indexOf_31 (by decide) ?_
      refine ih (i + 1, ls) ⟨hlt, fun j f' q q2 => ?_, (lv_sub hl [0, 1, 2] rfl)⟩ (by show as.length - (i + 1) < as.length - i; omega)
      rcases Nat.lt_succ_iff_lt_or_eq.mp q with q | q
      · exact hno j f' q q2
      · subst q
        rw [hff] at q2
        cases q2
        exact c2
    · refine lv_iload_n hx hb d_Fi_indexOf_26 rfl (lv_at hl 0 rfl) ?_
      exact x_iret hx hb hr hlocks (by rw [g_find_some hno hff c2]; rfl) rfl (fun q hq => by cases hq) (Nat.le_refl _) (Nat.le_refl _) d_Fi_indexOf_27
end
section
/-! FILES: find, count, copy, remove, insert, apply -/
def g_cnt (fs : List g_F) (x : Int32) : Nat := fs.countP (fun f => decide (f.1.1 = x))
def g_rem (fs : List g_F) (n : g_N) : List g_F := match g_find fs n with
  | some i => fs.eraseIdx i
  | none => fs
def g_pos (fs : List g_F) (n : g_N) : Nat → Nat
  | 0 => 0
  | k + 1 => match fs[k]? with
    | some e => if g_no n e.1 < 0 then g_pos fs n k else k + 1
    | none => k + 1
def g_ins (fs : List g_F) (f : g_F) : List g_F := if 60 ≤ fs.length then fs else fs.insertIdx (g_pos fs f.1 fs.length) f
def g_ap (fs : List g_F) (o : g_O) : List g_F := match o.2 with
  | none => g_rem fs o.1
  | some f => g_ins (g_rem (g_rem fs o.1) f.1) f
theorem x_but2.at {D : va_G} {a b q : Nat} {e : va_E} {H H1 : Heap} (h : x_but2 a b H H1) (hq : va_at D x_cl (q, e) H) (h1 : q ≠ a) (h2 : q ≠ b) : va_at D x_cl (q, e) H1 := hq.kept (h.2 q h1 h2)
theorem g_find_lt {fs : List g_F} {n : g_N} {i : Nat} (h : g_find fs n = some i) : i < fs.length := (List.findIdx?_eq_some_iff_getElem.mp h).1
theorem g_take {α : Type} {fs : List α} {i : Nat} {f : α} (h : fs[i]? = some f) : fs.take (i + 1) = fs.take i ++ [f] := by
  rw [List.take_add_one, h]
  rfl
theorem g_cnt_le (fs : List g_F) (x : Int32) (i : Nat) : (fs.take i).countP (fun f => decide (f.1.1 = x)) ≤ fs.length := Nat.le_trans List.countP_le_length (by rw [List.length_take]; omega)
theorem g_pos_le (fs : List g_F) (n : g_N) : ∀ k, g_pos fs n k ≤ k
  | 0 => Nat.le_refl _
  | k + 1 => by
    show (match fs[k]? with | some e => if g_no n e.1 < 0 then g_pos fs n k else k + 1 | none => k + 1) ≤ k + 1
    have ih := g_pos_le fs n k
    split
    · split
      · omega
      · exact Nat.le_refl _
    · exact Nat.le_refl _
theorem g_pos_step {fs : List g_F} {n : g_N} {k : Nat} {e : g_F} (h : fs[k]? = some e) (hn : g_no n e.1 < 0) : g_pos fs n (k + 1) = g_pos fs n k := by
  show (match fs[k]? with | some e => if g_no n e.1 < 0 then g_pos fs n k else k + 1 | none => k + 1) = _
  rw [h]
  exact if_pos hn
theorem g_pos_stop {fs : List g_F} {n : g_N} {k : Nat} {e : g_F} (h : fs[k]? = some e) (hn : ¬ g_no n e.1 < 0) : g_pos fs n (k + 1) = k + 1 := by
  show (match fs[k]? with | some e => if g_no n e.1 < 0 then g_pos fs n k else k + 1 | none => k + 1) = _
  rw [h]
  exact if_neg hn
theorem g_fs.erase {D : va_G} {A : Nat → ClassId} {M : Nat → Prop} {as : List Nat} {fs : List g_F} {H : Heap} (h : g_fs D A M as fs H) (i : Nat) : g_fs D A M (as.eraseIdx i) (fs.eraseIdx i) H := by
  refine ⟨by rw [List.length_eraseIdx, List.length_eraseIdx, h.1], fun j a f h1 h2 => ?_⟩
  rw [List.getElem?_eraseIdx] at h1 h2
  split at h1
  · rename_i hj
    rw [if_pos hj] at h2
    exact h.2 j a f h1 h2
  · rename_i hj
    rw [if_neg hj] at h2
    exact h.2 (j + 1) a f h1 h2
theorem g_insIdx {α : Type} {as : List α} {i j : Nat} {a b : α} (hi : i ≤ as.length) (h : (as.insertIdx i a)[j]? = some b) : (j < i ∧ as[j]? = some b) ∨ (j = i ∧ b = a) ∨ (i < j ∧ as[j - 1]? = some b) := by
  rcases Nat.lt_trichotomy j i with q | q | q
  · rw [List.getElem?_insertIdx_of_lt q] at h
    exact Or.inl ⟨q, h⟩
  · subst q
    rw [List.getElem?_insertIdx_self, if_pos hi] at h
    exact Or.inr (Or.inl ⟨rfl, (Option.some.inj h).symm⟩)
  · rw [List.getElem?_insertIdx_of_gt q] at h
    exact Or.inr (Or.inr ⟨q, h⟩)
theorem g_fs.ins {D : va_G} {A : Nat → ClassId} {M : Nat → Prop} {as : List Nat} {fs : List g_F} {H : Heap} {a : Nat} {f : g_F} {i : Nat} (h : g_fs D A M as fs H) (hf : g_sf D A M a f H) (hi : i ≤ as.length) : g_fs D A M (as.insertIdx i a) (fs.insertIdx i f) H := by
  refine ⟨by rw [List.length_insertIdx, List.length_insertIdx, h.1], fun j b e h1 h2 => ?_⟩
  rcases g_insIdx hi h1 with ⟨q, q1⟩ | ⟨q, q1⟩ | ⟨q, q1⟩ <;> rcases g_insIdx (by rw [← h.1]; exact hi) h2 with ⟨w, w1⟩ | ⟨w, w1⟩ | ⟨w, w1⟩ <;> first | omega | skip
  · exact h.2 j b e q1 w1
  · rw [q1, w1]; exact hf
  · exact h.2 (j - 1) b e q1 w1
set_option maxHeartbeats 4000000 in
set_option maxRecDepth 100000 in
theorem c_Fi_find (l : Launch) {D : va_G} {A : Nat → ClassId} {H0 : Heap} {M : Nat → Prop} {h r b : Nat} {as : List Nat} {fs : List g_F} {n : g_N} (hf : g_fr D A 5 1 60 h r as H0) (hs : g_fs D A M as fs H0) (hn : g_nm D A M b n H0) {j a : Nat} (hj : g_find fs n = some j) (ha : as[j]? = some a) : Met l y_Fi_find w_Fi_find { frames := 3, cells := 0, slots := 0, locals := 67 } (x_Pc D A [.ref h, .ref b] H0) (x_Q (some (.ref a)) (fun H1 => H1 = H0)) 0 0 (fun _ => False) := by
  refine Met.ofW (cc := prog_3_method_4_code) (maxL := 2) (ret := (some (.object "BreakingDisk$StoredFile"))) (by decide) rfl ?_
  intro p e s m args below meth c s₁ B hml hv
  obtain ⟨rfl, hH, hK, hN⟩ := hv
  obtain ⟨hx, hb, hr, htb, hown, hlocks⟩ := x_start (wd := Cond.code y_Fi_find prog_3_method_4_code 2 (some (.object "BreakingDisk$StoredFile"))) B
  have hl := lv_entry ([.ref h, .ref b]) (n := 2) (Nat.le_of_ble_eq_true rfl)
  rw [lg_entry_eq]
  generalize (lg_sl ([.ref h, .ref b]) ++ List.replicate (2 - (lg_sl ([.ref h, .ref b])).length) Slot.unset).toArray = ls at hl ⊢
  have hl : lv_has ls 2 [(0, .ref h), (1, .ref b)] := hl
  rw [hH]
  obtain ⟨g, h1, h2, h3, h4⟩ := id hf
  refine lv_aload_n hx hb d_Fi_find_0 rfl (lv_at hl 0 rfl) ?_
  refine lv_aload_n hx hb d_Fi_find_1 rfl (lv_at hl 0 rfl) ?_
  refine lv_aload_n hx hb d_Fi_find_2 rfl (lv_at hl 1 rfl) ?_
  refine x_callP (va_runV (As := [.ref b]) (rest := [.ref h]) ⟨hx, hb, hml, hown, htb⟩ (c_Fi_indexOf l hf hs hn) (x_cV 1 htb mw_158 mw_3 mw_161 mw_160 ms_1 rfl rfl (by decide +kernel) ⟨Nat.le_of_ble_eq_true rfl, Nat.le_of_ble_eq_true rfl⟩) (x_preV hK hN h1 rfl) rfl rfl hl.1 rfl (lv_room (Nat.le_of_ble_eq_true rfl)) d_Fi_find_3 ⟨Nat.le_of_ble_eq_true rfl, Nat.le_of_ble_eq_true rfl⟩) ?_
  refine W.eq (g2 := F0 m 6 ls [.int (g_ixv (g_find fs n)), .ref h]) rfl ?_
  refine x_top (y := nI j) (congrArg g_ixv hj) ?_
  refine x_callP (va_runV (As := [.int (nI j)]) (rest := []) ⟨hx, hb, hml, hown, htb⟩ (c_Fi_nth l hf ha) (x_cV 1 htb mw_173 mw_3 mw_176 mw_174 mw_175 rfl rfl (by decide +kernel) ⟨Nat.le_of_ble_eq_true rfl, Nat.le_of_ble_eq_true rfl⟩) (x_preV hK hN h1 rfl) rfl rfl hl.1 rfl (lv_room (Nat.le_of_ble_eq_true rfl)) d_Fi_find_6 ⟨Nat.le_of_ble_eq_true rfl, Nat.le_of_ble_eq_true rfl⟩) ?_
  refine W.eq (g2 := F0 m 9 ls [.ref a]) rfl ?_
  exact x_aret hx hb hr (Or.inl ⟨_, rfl⟩) (Or.inr ⟨_, rfl⟩) hlocks rfl (fun q hq => by cases hq) (Nat.le_refl _) (Nat.le_refl _) d_Fi_find_9
set_option maxHeartbeats 4000000 in
set_option maxRecDepth 100000 in
theorem c_Fi_findN (l : Launch) {D : va_G} {A : Nat → ClassId} {H0 : Heap} {M : Nat → Prop} {h r b : Nat} {as : List Nat} {fs : List g_F} {n : g_N} (hf : g_fr D A 5 1 60 h r as H0) (hs : g_fs D A M as fs H0) (hn : g_nm D A M b n H0) (hj : g_find fs n = none) : Met l y_Fi_find w_Fi_find { frames := 3, cells := 0, slots := 0, locals := 67 } (x_Pc D A [.ref h, .ref b] H0) (x_Q (some (.null)) (fun H1 => H1 = H0)) 0 0 (fun _ => False) := by
  refine Met.ofW (cc := prog_3_method_4_code) (maxL := 2) (ret := (some (.object "BreakingDisk$StoredFile"))) (by decide) rfl ?_
  intro p e s m args below meth c s₁ B hml hv
  obtain ⟨rfl, hH, hK, hN⟩ := hv
  obtain ⟨hx, hb, hr, htb, hown, hlocks⟩ := x_start (wd := Cond.code y_Fi_find prog_3_method_4_code 2 (some (.object "BreakingDisk$StoredFile"))) B
  have hl := lv_entry ([.ref h, .ref b]) (n := 2) (Nat.le_of_ble_eq_true rfl)
  rw [lg_entry_eq]
  generalize (lg_sl ([.ref h, .ref b]) ++ List.replicate (2 - (lg_sl ([.ref h, .ref b])).length) Slot.unset).toArray = ls at hl ⊢
  have hl : lv_has ls 2 [(0, .ref h), (1, .ref b)] := hl
  rw [hH]
  obtain ⟨g, h1, h2, h3, h4⟩ := id hf
  refine lv_aload_n hx hb d_Fi_find_0 rfl (lv_at hl 0 rfl) ?_
  refine lv_aload_n hx hb d_Fi_find_1 rfl (lv_at hl 0 rfl) ?_
  refine lv_aload_n hx hb d_Fi_find_2 rfl (lv_at hl 1 rfl) ?_
  refine x_callP (va_runV (As := [.ref b]) (rest := [.ref h]) ⟨hx, hb, hml, hown, htb⟩ (c_Fi_indexOf l hf hs hn) (x_cV 1 htb mw_158 mw_3 mw_161 mw_160 ms_1 rfl rfl (by decide +kernel) ⟨Nat.le_of_ble_eq_true rfl, Nat.le_of_ble_eq_true rfl⟩) (x_preV hK hN h1 rfl) rfl rfl hl.1 rfl (lv_room (Nat.le_of_ble_eq_true rfl)) d_Fi_find_3 ⟨Nat.le_of_ble_eq_true rfl, Nat.le_of_ble_eq_true rfl⟩) ?_
  refine W.eq (g2 := F0 m 6 ls [.int (g_ixv (g_find fs n)), .ref h]) rfl ?_
  refine x_top (y := (-1)) (congrArg g_ixv hj) ?_
  refine x_callP (va_runV (As := [.int (-1)]) (rest := []) ⟨hx, hb, hml, hown, htb⟩ (c_Fi_nthN l hf (Or.inl (by decide))) (x_cV 1 htb mw_173 mw_3 mw_176 mw_174 mw_175 rfl rfl (by decide +kernel) ⟨Nat.le_of_ble_eq_true rfl, Nat.le_of_ble_eq_true rfl⟩) (x_preV hK hN h1 rfl) rfl rfl hl.1 rfl (lv_room (Nat.le_of_ble_eq_true rfl)) d_Fi_find_6 ⟨Nat.le_of_ble_eq_true rfl, Nat.le_of_ble_eq_true rfl⟩) ?_
  refine W.eq (g2 := F0 m 9 ls [.null]) rfl ?_
  exact x_aret hx hb hr (Or.inl ⟨_, rfl⟩) (Or.inl rfl) hlocks rfl (fun q hq => by cases hq) (Nat.le_refl _) (Nat.le_refl _) d_Fi_find_9
set_option maxHeartbeats 4000000 in
set_option maxRecDepth 100000 in
theorem c_Fi_countOfSort (l : Launch) {D : va_G} {A : Nat → ClassId} {H0 : Heap} {M : Nat → Prop} {h r : Nat} {as : List Nat} {fs : List g_F} (hf : g_fr D A 5 1 60 h r as H0) (hs : g_fs D A M as fs H0) (x : Int32) : Met l y_Fi_countOfSort w_Fi_countOfSort { frames := 0, cells := 0, slots := 0, locals := 0 } (x_Pc D A [.ref h, .int x] H0) (x_Q (some (.int (nI (g_cnt fs x)))) (fun H1 => H1 = H0)) 0 0 (fun _ => False) := by
  refine Met.ofW (cc := prog_3_method_5_code) (maxL := 4) (ret := (some .int)) (by decide) rfl ?_
  intro p e s m args below meth c s₁ B hml hv
  obtain ⟨rfl, hH, hK, hN⟩ := hv
  obtain ⟨hx, hb, hr, htb, hown, hlocks⟩ := x_start (wd := Cond.code y_Fi_countOfSort prog_3_method_5_code 4 (some .int)) B
  have hl := lv_entry ([.ref h, .int x]) (n := 4) (Nat.le_of_ble_eq_true rfl)
  rw [lg_entry_eq]
  generalize (lg_sl ([.ref h, .int x]) ++ List.replicate (4 - (lg_sl ([.ref h, .int x])).length) Slot.unset).toArray = ls at hl ⊢
  have hl : lv_has ls 4 [(0, .ref h), (1, .int x)] := hl
  rw [hH]
  obtain ⟨g, h1, h2, h3, h4⟩ := hf
  refine lv_iconst (v := 0) hx hb d_Fi_countOfSort_0 (by decide) ?_
  refine lv_istore_n (lv' := [(2, .int 0), (0, .ref h), (1, .int x)]) hx hb d_Fi_countOfSort_1 rfl hl (by decide) rfl (fun ls hl => ?_)
  refine lv_iconst (v := 0) hx hb d_Fi_countOfSort_2 (by decide) ?_
  refine lv_istore_n (lv' := [(3, .int 0), (2, .int 0), (0, .ref h), (1, .int x)]) hx hb d_Fi_countOfSort_3 rfl hl (by decide) rfl (fun ls hl => ?_)
  refine x_loop (σ := Nat × Array Slot) (fun z => F0 m 4 z.2 []) (fun _ => H0) (fun _ => []) (fun z => z.1 ≤ as.length ∧ lv_has z.2 4 [(3, .int (nI z.1)), (2, .int (nI ((fs.take z.1).countP (fun f => decide (f.1.1 = x))))), (0, .ref h), (1, .int x)]) (fun z => as.length - z.1) (s0 := (0, ls)) ⟨Nat.zero_le _, hl⟩ ?_
  rintro ⟨i, ls⟩ ⟨hi, hl⟩ ih
  dsimp only at hi hl ih ⊢
  have hcl := g_cnt_le fs x i
  have hsl := hs.1
  refine lv_iload_n hx hb d_Fi_countOfSort_4 rfl (lv_at hl 0 rfl) ?_
  refine lv_aload_n hx hb d_Fi_countOfSort_5 rfl (lv_at hl 2 rfl) ?_
  refine x_get (ci := 5) (T := T_Fi) hx hb htb u_Fi hown hK h1 rfl 1 (by decide) (htb _ mw_52) (fun _ h9 => h9) (v := .int (nI as.length)) rfl d_Fi_countOfSort_6 ?_
  refine lv_icmp_ge (tgt := 37) hx hb d_Fi_countOfSort_9 (by decide) (fun c1 => ?_) (fun c1 => ?_)
  · have e : i = as.length := Nat.le_antisymm hi (Nat.le_of_not_lt fun q => absurd c1 (nI_ge q (by omega)))
    refine lv_iload_n hx hb d_Fi_countOfSort_37 rfl (lv_at hl 1 rfl) ?_
    exact x_iret hx hb hr hlocks (by rw [e, hs.1, List.take_length]; rfl) rfl (fun q hq => by cases hq) (Nat.le_refl _) (Nat.le_refl _) d_Fi_countOfSort_38
  · have hlt : i < as.length := Nat.lt_of_not_le fun q => absurd (nI_le q (by omega)) c1
    obtain ⟨a, ha⟩ := g_ex hlt
    obtain ⟨f, hff⟩ := g_ex (as := fs) (j := i) (by rw [← hs.1]; exact hlt)
    obtain ⟨na, ca, f1, f2, ⟨pa, f3, f3r⟩, f4⟩ := hs.2 i a f ha hff
    have htk := g_take hff
    refine lv_aload_n hx hb d_Fi_countOfSort_12 rfl (lv_at hl 2 rfl) ?_
    refine x_get (ci := 5) (T := T_Fi) hx hb htb u_Fi hown hK h1 rfl 0 (by decide) (htb _ mw_51) (fun _ h9 => h9) (v := .ref r) rfl d_Fi_countOfSort_13 ?_
    refine lv_iload_n hx hb d_Fi_countOfSort_16 rfl (lv_at hl 0 rfl) ?_
    refine x_aldq hx hb hK 1 h2 rfl (vp_in_nI (by omega) (by omega)) (r := .ref a) (by rw [nI_clamp (by omega), h3 i a ha]; rfl) d_Fi_countOfSort_17 ?_
    refine x_getN (ci := 2) (T := T_Sf) hx hb htb u_Sf hown hK f1 rfl 0 (by decide) (va_Nw.use rfl (hN.1 _ nf_376)) (fun _ h9 => h9) (v := .ref na) rfl d_Fi_countOfSort_18 ?_
    refine x_getN (ci := 1) (T := T_Nm) hx hb htb u_Nm hown hK f3 rfl 0 (by decide) (va_Nw.use rfl (hN.1 _ nf_142)) (fun _ h9 => h9) (v := .int f.1.1) rfl d_Fi_countOfSort_21 ?_
    refine lv_iload_n hx hb d_Fi_countOfSort_24 rfl (lv_at hl 3 rfl) ?_
    refine lv_icmp_ne (tgt := 31) hx hb d_Fi_countOfSort_25 (by decide) (fun c2 => ?_) (fun c2 => ?_)
    · refine lv_iinc (v := nI (i + 1)) (lv' := [(3, .int (nI (i + 1))), (2, .int (nI ((fs.take i).countP (fun f => decide (f.1.1 = x))))), (0, .ref h), (1, .int x)]) hx hb d_Fi_countOfSort_31 hl (k := 0) rfl (nI_1 i) (by decide) rfl (fun ls hl => ?_)
      refine lv_goto (tgt := 4) hx hb d_Fi_countOfSort_34 (by decide) ?_
      have e2 : (fs.take (i + 1)).countP (fun f => decide (f.1.1 = x)) = (fs.take i).countP (fun f => decide (f.1.1 = x)) := by rw [htk, List.countP_append, List.countP_singleton, if_neg (by simpa using c2), Nat.add_zero]
      rw [← e2] at hl
      exact ih (i + 1, ls) ⟨hlt, (lv_sub hl [0, 1, 2, 3] rfl)⟩ (by show as.length - (i + 1) < as.length - i; omega)
    · refine lv_iinc (v := nI ((fs.take i).countP (fun f => decide (f.1.1 = x)) + 1)) (lv' := [(2, .int (nI ((fs.take i).countP (fun f => decide (f.1.1 = x)) + 1))), (3, .int (nI i)), (0, .ref h), (1, .int x)]) hx hb d_Fi_countOfSort_28 hl (k := 1) rfl (nI_1 _) (by decide) rfl (fun ls hl => ?_)
      refine lv_iinc (v := nI (i + 1)) (lv' := [(3, .int (nI (i + 1))), (2, .int (nI ((fs.take i).countP (fun f => decide (f.1.1 = x)) + 1))), (0, .ref h), (1, .int x)]) hx hb d_Fi_countOfSort_31 hl (k := 1) rfl (nI_1 i) (by decide) rfl (fun ls hl => ?_)
      refine lv_goto (tgt := 4) hx hb d_Fi_countOfSort_34 (by decide) ?_
      have e2 : (fs.take (i + 1)).countP (fun f => decide (f.1.1 = x)) = (fs.take i).countP (fun f => decide (f.1.1 = x)) + 1 := by rw [htk, List.countP_append, List.countP_singleton, if_pos (by simpa using c2)]
      rw [← e2] at hl
      exact ih (i + 1, ls) ⟨hlt, (lv_sub hl [0, 1, 2, 3] rfl)⟩ (by show as.length - (i + 1) < as.length - i; omega)
set_option maxHeartbeats 4000000 in
set_option maxRecDepth 100000 in
theorem c_Fi_copyFrom (l : Launch) {D : va_G} {A : Nat → ClassId} {H0 : Heap} {M : Nat → Prop} {h r h2 r2 : Nat} {as bs : List Nat} {fs : List g_F} (hf : g_fr D A 5 1 60 h r as H0) (hg : g_fr D A 5 1 60 h2 r2 bs H0) (hs : g_fs D A M bs fs H0) (hM1 : M h) (hM2 : M r) (n1 : h ≠ r) (n2 : h2 ≠ h) (n3 : h2 ≠ r) (n4 : r2 ≠ h) (n5 : r2 ≠ r) : Met l y_Fi_copyFrom w_Fi_copyFrom { frames := 0, cells := 0, slots := 0, locals := 0 } (x_Pc D A [.ref h, .ref h2] H0) (x_Q none (fun H1 => g_fr D A 5 1 60 h r bs H1 ∧ x_but2 h r H0 H1)) 0 0 (fun q : Nat => q = h ∨ q = r) := by
  refine Met.ofW (cc := prog_3_method_7_code) (maxL := 3) (ret := none) (by decide) rfl ?_
  intro p e s m args below meth c s₁ B hml hv
  obtain ⟨rfl, hH, hK, hN⟩ := hv
  obtain ⟨hx, hb, hr, htb, hown, hlocks⟩ := x_start (wd := Cond.code y_Fi_copyFrom prog_3_method_7_code 3 none) B
  have hl := lv_entry ([.ref h, .ref h2]) (n := 3) (Nat.le_of_ble_eq_true rfl)
  rw [lg_entry_eq]
  generalize (lg_sl ([.ref h, .ref h2]) ++ List.replicate (3 - (lg_sl ([.ref h, .ref h2])).length) Slot.unset).toArray = ls at hl ⊢
  have hl : lv_has ls 3 [(0, .ref h), (1, .ref h2)] := hl
  rw [hH]
  obtain ⟨g, h1, h2a, h3, h4⟩ := hf
  obtain ⟨g2, k1, k2, k3, k4⟩ := hg
  have hL : ∀ q ∈ ([] : List Loc), (fun q : Nat => q = h ∨ q = r) q.base := fun q hq => by cases hq
  refine lv_aload_n hx hb d_Fi_copyFrom_0 rfl (lv_at hl 0 rfl) ?_
  refine lv_aload_n hx hb d_Fi_copyFrom_1 rfl (lv_at hl 1 rfl) ?_
  refine x_get (ci := 5) (T := T_Fi) hx hb htb u_Fi hown hK k1 rfl 1 (by decide) (htb _ mw_52) (fun _ h9 => h9) (v := .int (nI bs.length)) rfl d_Fi_copyFrom_2 ?_
  refine x_put (F := fun q : Nat => q = h ∨ q = r) (ci := 5) (v := .int (nI bs.length)) (ty := .int) (T := T_Fi) hx hb htb u_Fi t_Fi t_Fi_ok n_Fi hown hK h1 hL (Or.inl rfl) rfl 1 (by decide) (htb _ mw_52) (fun _ h9 => h9) rfl (by decide +kernel) rfl rfl (Nat.le_of_ble_eq_true rfl) d_Fi_copyFrom_5 (fun H1 locs q1 hc1 hL => ?_)
  have q1 : va_at D x_cl (h, .inr (5, [.ref r, .int (nI bs.length)])) H1 := q1
  have q2 := hc1.at h2a n1.symm
  have hb0 : x_but2 h r H0 H1 := x_but2.l hc1
  refine lv_iconst (v := 0) hx hb d_Fi_copyFrom_8 (by decide) ?_
  refine lv_istore_n (lv' := [(2, .int 0), (0, .ref h), (1, .ref h2)]) hx hb d_Fi_copyFrom_9 rfl hl (by decide) rfl (fun ls hl => ?_)
  refine x_loop (σ := Nat × (Nat → Option Nat) × Heap × List Loc × Array Slot) (fun z => F0 m 10 z.2.2.2.2 []) (fun z => z.2.2.1) (fun z => z.2.2.2.1) (fun z => z.1 ≤ bs.length ∧ va_at D x_cl (h, .inr (5, [.ref r, .int (nI bs.length)])) z.2.2.1 ∧ va_at D x_cl (r, .inl (A 1, 60, .inr (.inr (.inr (.inr z.2.1))))) z.2.2.1 ∧ (∀ (j a : Nat), j < z.1 → bs[j]? = some a → z.2.1 j = some a) ∧ x_but2 h r H0 z.2.2.1 ∧ (∀ q ∈ z.2.2.2.1, (fun q : Nat => q = h ∨ q = r) q.base) ∧ lv_has z.2.2.2.2 3 [(2, .int (nI z.1)), (0, .ref h), (1, .ref h2)]) (fun z => bs.length - z.1) (s0 := (0, g, H1, locs, ls)) ⟨Nat.zero_le _, q1, q2, fun j a q => absurd q (Nat.not_lt_zero j), hb0, hL, hl⟩ ?_
  rintro ⟨i, g, H, locs, ls⟩ ⟨hi, p1, p2, p3, hb2, hL, hl⟩ ih
  dsimp only at hi p1 p2 p3 hb2 hL hl ih ⊢
  have k1 := hb2.at k1 n2 n3
  have k2 := hb2.at k2 n4 n5
  refine lv_iload_n hx hb d_Fi_copyFrom_10 rfl (lv_at hl 0 rfl) ?_
  refine lv_aload_n hx hb d_Fi_copyFrom_11 rfl (lv_at hl 1 rfl) ?_
  refine x_get (ci := 5) (T := T_Fi) hx hb htb u_Fi hown hK p1 rfl 1 (by decide) (htb _ mw_52) (fun _ h9 => h9) (v := .int (nI bs.length)) rfl d_Fi_copyFrom_12 ?_
  refine lv_icmp_ge (tgt := 36) hx hb d_Fi_copyFrom_15 (by decide) (fun c1 => ?_) (fun c1 => ?_)
  · have e : i = bs.length := Nat.le_antisymm hi (Nat.le_of_not_lt fun q => absurd c1 (nI_ge q (by omega)))
    exact x_vret hx hb hr hlocks ⟨⟨g, p1, p2, fun j a q => p3 j a (by rw [e]; exact (List.getElem?_eq_some_iff.mp q).1) q, k4⟩, hb2⟩ hL (Nat.le_refl _) (Nat.le_refl _) d_Fi_copyFrom_36
  · have hlt : i < bs.length := Nat.lt_of_not_le fun q => absurd (nI_le q (by omega)) c1
    obtain ⟨a, ha⟩ := g_ex hlt
    obtain ⟨f, hff⟩ := g_ex (as := fs) (j := i) (by rw [← hs.1]; exact hlt)
    obtain ⟨na, ca, f1, f2, f3, f4⟩ := (hs.2 i a f ha hff).kept (hb2.K hM1 hM2)
    refine lv_aload_n hx hb d_Fi_copyFrom_18 rfl (lv_at hl 1 rfl) ?_
    refine x_get (ci := 5) (T := T_Fi) hx hb htb u_Fi hown hK p1 rfl 0 (by decide) (htb _ mw_51) (fun _ h9 => h9) (v := .ref r) rfl d_Fi_copyFrom_19 ?_
    refine lv_iload_n hx hb d_Fi_copyFrom_22 rfl (lv_at hl 0 rfl) ?_
    refine lv_aload_n hx hb d_Fi_copyFrom_23 rfl (lv_at hl 2 rfl) ?_
    refine x_get (ci := 5) (T := T_Fi) hx hb htb u_Fi hown hK k1 rfl 0 (by decide) (htb _ mw_51) (fun _ h9 => h9) (v := .ref r2) rfl d_Fi_copyFrom_24 ?_
    refine lv_iload_n hx hb d_Fi_copyFrom_27 rfl (lv_at hl 0 rfl) ?_
    refine x_aldq hx hb hK 1 k2 rfl (vp_in_nI (by omega) (by omega)) (r := .ref a) (by rw [nI_clamp (by omega), k3 i a ha]; rfl) d_Fi_copyFrom_28 ?_
    refine x_astq (F := fun q : Nat => q = h ∨ q = r) hx hb hK 1 2 p2 hL (Or.inr rfl) rfl f1 rfl (vp_in_nI (by omega) (by omega)) d_Fi_copyFrom_29 (fun H3 locs p2 hm3 hL => ?_)
    refine lv_iinc (v := nI (i + 1)) (lv' := [(2, .int (nI (i + 1))), (0, .ref h), (1, .ref h2)]) hx hb d_Fi_copyFrom_30 hl (k := 0) rfl (nI_1 i) (by decide) rfl (fun ls hl => ?_)
    refine lv_goto (tgt := 10) hx hb d_Fi_copyFrom_33 (by decide) ?_
    refine ih (i + 1, _, H3, locs, ls) ⟨hlt, hm3.at p1 n1, p2, fun j a' q q2 => ?_, hb2.trans (x_but2.r hm3), hL, (lv_sub hl [0, 1, 2] rfl)⟩ (by show bs.length - (i + 1) < bs.length - i; omega)
    show va_up g (nI i).toNatClampNeg (some a) j = some a'
    rw [nI_clamp (by omega)]
    rcases Nat.lt_succ_iff_lt_or_eq.mp q with q | q
    · rw [va_up_ne _ _ (by omega)]; exact p3 j a' q q2
    · subst q; rw [va_up_self, ← ha, q2]
def g_sel (as : List Nat) (fs : List g_F) (x : Int32) (i : Nat) : List Nat := ((as.zip fs).take i).filterMap (fun p => if p.2.1.1 = x then some p.1 else none)
def g_ofs (fs : List g_F) (x : Int32) : List g_F := fs.filter (fun f => decide (f.1.1 = x))
theorem g_zip {as : List Nat} {fs : List g_F} {i a : Nat} {f : g_F} (h : as[i]? = some a) (h2 : fs[i]? = some f) : (as.zip fs)[i]? = some (a, f) := by
  rw [List.getElem?_zip_eq_some]
  exact ⟨h, h2⟩
theorem g_sel_step {as : List Nat} {fs : List g_F} {x : Int32} {i a : Nat} {f : g_F} (h : as[i]? = some a) (h2 : fs[i]? = some f) : g_sel as fs x (i + 1) = g_sel as fs x i ++ (if f.1.1 = x then [a] else []) := by
  unfold g_sel
  rw [g_take (g_zip h h2), List.filterMap_append]
  congr 1
  by_cases hx : f.1.1 = x <;> simp [hx]
theorem g_sel_le {as : List Nat} {fs : List g_F} {x : Int32} {i : Nat} : (g_sel as fs x i).length ≤ i := by
  unfold g_sel
  refine Nat.le_trans (List.length_filterMap_le _ _) ?_
  rw [List.length_take]
  omega
theorem g_sel_fs {D : va_G} {A : Nat → ClassId} {M : Nat → Prop} {H : Heap} {x : Int32} : ∀ (as : List Nat) (fs : List g_F), g_fs D A M as fs H → g_fs D A M (g_sel as fs x as.length) (g_ofs fs x) H
  | [], [], _ => ⟨rfl, fun j a f h => by simp [g_sel] at h⟩
  | [], f :: fs, h => by have := h.1; simp at this
  | a :: as, [], h => by have := h.1; simp at this
  | a :: as, f :: fs, h => by
    have h0 : g_fs D A M as fs H := ⟨by have := h.1; simpa using this, fun j b e h1 h2 => h.2 (j + 1) b e h1 h2⟩
    have ih := g_sel_fs (x := x) as fs h0
    have e1 : g_sel (a :: as) (f :: fs) x (a :: as).length = (if f.1.1 = x then [a] else []) ++ g_sel as fs x as.length := by
      unfold g_sel
      rw [List.length_cons, List.zip_cons_cons, List.take_succ_cons, List.filterMap_cons]
      by_cases hx : f.1.1 = x <;> simp [hx]
    have e2 : g_ofs (f :: fs) x = (if f.1.1 = x then [f] else []) ++ g_ofs fs x := by
      unfold g_ofs
      rw [List.filter_cons]
      by_cases hx : f.1.1 = x <;> simp [hx]
    rw [e1, e2]
    by_cases hx : f.1.1 = x
    · rw [if_pos hx, if_pos hx]
      refine ⟨by simp [ih.1], fun j b e h1 h2 => ?_⟩
      cases j with
      | zero =>
        cases h1
        cases h2
        exact h.2 0 a f rfl rfl
      | succ j => exact ih.2 j b e h1 h2
    · rw [if_neg hx, if_neg hx]
      exact ih
set_option maxHeartbeats 4000000 in
set_option maxRecDepth 100000 in
theorem c_Fi_copySortFrom (l : Launch) {D : va_G} {A : Nat → ClassId} {H0 : Heap} {M : Nat → Prop} {h r h2 r2 : Nat} {as bs : List Nat} {fs : List g_F} {x : Int32} (hf : g_fr D A 5 1 60 h r as H0) (hg : g_fr D A 5 1 60 h2 r2 bs H0) (hs : g_fs D A M bs fs H0) (hM1 : M h) (hM2 : M r) (n1 : h ≠ r) (n2 : h2 ≠ h) (n3 : h2 ≠ r) (n4 : r2 ≠ h) (n5 : r2 ≠ r) : Met l y_Fi_copySortFrom w_Fi_copySortFrom { frames := 0, cells := 0, slots := 0, locals := 0 } (x_Pc D A [.ref h, .ref h2, .int x] H0) (x_Q none (fun H1 => g_fr D A 5 1 60 h r (g_sel bs fs x bs.length) H1 ∧ x_but2 h r H0 H1)) 0 0 (fun q : Nat => q = h ∨ q = r) := by
  refine Met.ofW (cc := prog_3_method_8_code) (maxL := 4) (ret := none) (by decide) rfl ?_
  intro p e s m args below meth c s₁ B hml hv
  obtain ⟨rfl, hH, hK, hN⟩ := hv
  obtain ⟨hx, hb, hr, htb, hown, hlocks⟩ := x_start (wd := Cond.code y_Fi_copySortFrom prog_3_method_8_code 4 none) B
  have hl := lv_entry ([.ref h, .ref h2, .int x]) (n := 4) (Nat.le_of_ble_eq_true rfl)
  rw [lg_entry_eq]
  generalize (lg_sl ([.ref h, .ref h2, .int x]) ++ List.replicate (4 - (lg_sl ([.ref h, .ref h2, .int x])).length) Slot.unset).toArray = ls at hl ⊢
  have hl : lv_has ls 4 [(0, .ref h), (1, .ref h2), (2, .int x)] := hl
  rw [hH]
  obtain ⟨g, h1, h2a, h3, h4⟩ := hf
  obtain ⟨g2, k1, k2, k3, k4⟩ := hg
  have hL : ∀ q ∈ ([] : List Loc), (fun q : Nat => q = h ∨ q = r) q.base := fun q hq => by cases hq
  refine lv_aload_n hx hb d_Fi_copySortFrom_0 rfl (lv_at hl 0 rfl) ?_
  refine lv_iconst (v := 0) hx hb d_Fi_copySortFrom_1 (by decide) ?_
  refine x_put (F := fun q : Nat => q = h ∨ q = r) (ci := 5) (v := .int 0) (ty := .int) (T := T_Fi) hx hb htb u_Fi t_Fi t_Fi_ok n_Fi hown hK h1 hL (Or.inl rfl) rfl 1 (by decide) (htb _ mw_52) (fun _ h9 => h9) rfl (by decide +kernel) rfl rfl (Nat.le_of_ble_eq_true rfl) d_Fi_copySortFrom_2 (fun H1 locs q1 hc2 hL => ?_)
  have q1 : va_at D x_cl (h, .inr (5, [.ref r, .int 0])) H1 := q1
  have q2 := hc2.at h2a n1.symm
  have hb0 : x_but2 h r H0 H1 := x_but2.l hc2
  refine lv_iconst (v := 0) hx hb d_Fi_copySortFrom_5 (by decide) ?_
  refine lv_istore_n (lv' := [(3, .int 0), (0, .ref h), (1, .ref h2), (2, .int x)]) hx hb d_Fi_copySortFrom_6 rfl hl (by decide) rfl (fun ls hl => ?_)
  refine x_loop (σ := Nat × (Nat → Option Nat) × Heap × List Loc × Array Slot) (fun z => F0 m 7 z.2.2.2.2 []) (fun z => z.2.2.1) (fun z => z.2.2.2.1) (fun z => z.1 ≤ bs.length ∧ va_at D x_cl (h, .inr (5, [.ref r, .int (nI (g_sel bs fs x z.1).length)])) z.2.2.1 ∧ va_at D x_cl (r, .inl (A 1, 60, .inr (.inr (.inr (.inr z.2.1))))) z.2.2.1 ∧ g_row z.2.1 (g_sel bs fs x z.1) ∧ x_but2 h r H0 z.2.2.1 ∧ (∀ q ∈ z.2.2.2.1, (fun q : Nat => q = h ∨ q = r) q.base) ∧ lv_has z.2.2.2.2 4 [(3, .int (nI z.1)), (0, .ref h), (1, .ref h2), (2, .int x)]) (fun z => bs.length - z.1) (s0 := (0, g, H1, locs, ls)) ⟨Nat.zero_le _, q1, q2, fun j a q => by simp [g_sel] at q, hb0, hL, hl⟩ ?_
  rintro ⟨i, g, H, locs, ls⟩ ⟨hi, p1, p2, p3, hb2, hL, hl⟩ ih
  dsimp only at hi p1 p2 p3 hb2 hL hl ih ⊢
  have k1 := hb2.at k1 n2 n3
  have k2 := hb2.at k2 n4 n5
  have hsl := g_sel_le (as := bs) (fs := fs) (x := x) (i := i)
  refine lv_iload_n hx hb d_Fi_copySortFrom_7 rfl (lv_at hl 0 rfl) ?_
  refine lv_aload_n hx hb d_Fi_copySortFrom_8 rfl (lv_at hl 2 rfl) ?_
  refine x_get (ci := 5) (T := T_Fi) hx hb htb u_Fi hown hK k1 rfl 1 (by decide) (htb _ mw_52) (fun _ h9 => h9) (v := .int (nI bs.length)) rfl d_Fi_copySortFrom_9 ?_
  refine lv_icmp_ge (tgt := 62) hx hb d_Fi_copySortFrom_12 (by decide) (fun c1 => ?_) (fun c1 => ?_)
  · have e : i = bs.length := Nat.le_antisymm hi (Nat.le_of_not_lt fun q => absurd c1 (nI_ge q (by omega)))
    subst e
    exact x_vret hx hb hr hlocks ⟨⟨g, p1, p2, p3, Nat.le_trans hsl k4⟩, hb2⟩ hL (Nat.le_refl _) (Nat.le_refl _) d_Fi_copySortFrom_62
  · have hlt : i < bs.length := Nat.lt_of_not_le fun q => absurd (nI_le q (by omega)) c1
    obtain ⟨a, ha⟩ := g_ex hlt
    obtain ⟨f, hff⟩ := g_ex (as := fs) (j := i) (by rw [← hs.1]; exact hlt)
    obtain ⟨na, ca, f1, f2, ⟨pa, f3, f3r⟩, f4⟩ := (hs.2 i a f ha hff).kept (hb2.K hM1 hM2)
    have hst := g_sel_step (x := x) ha hff
    refine lv_aload_n hx hb d_Fi_copySortFrom_15 rfl (lv_at hl 2 rfl) ?_
    refine x_get (ci := 5) (T := T_Fi) hx hb htb u_Fi hown hK k1 rfl 0 (by decide) (htb _ mw_51) (fun _ h9 => h9) (v := .ref r2) rfl d_Fi_copySortFrom_16 ?_
    refine lv_iload_n hx hb d_Fi_copySortFrom_19 rfl (lv_at hl 0 rfl) ?_
    refine x_aldq hx hb hK 1 k2 rfl (vp_in_nI (by omega) (by omega)) (r := .ref a) (by rw [nI_clamp (by omega), k3 i a ha]; rfl) d_Fi_copySortFrom_20 ?_
    refine x_getN (ci := 2) (T := T_Sf) hx hb htb u_Sf hown hK f1 rfl 0 (by decide) (va_Nw.use rfl (hN.1 _ nf_376)) (fun _ h9 => h9) (v := .ref na) rfl d_Fi_copySortFrom_21 ?_
    refine x_getN (ci := 1) (T := T_Nm) hx hb htb u_Nm hown hK f3 rfl 0 (by decide) (va_Nw.use rfl (hN.1 _ nf_142)) (fun _ h9 => h9) (v := .int f.1.1) rfl d_Fi_copySortFrom_24 ?_
    refine lv_iload_n hx hb d_Fi_copySortFrom_27 rfl (lv_at hl 3 rfl) ?_
    refine lv_icmp_ne (tgt := 56) hx hb d_Fi_copySortFrom_28 (by decide) (fun c2 => ?_) (fun c2 => ?_)
    · rw [if_neg c2, List.append_nil] at hst
      refine lv_iinc (v := nI (i + 1)) (lv' := [(3, .int (nI (i + 1))), (0, .ref h), (1, .ref h2), (2, .int x)]) hx hb d_Fi_copySortFrom_56 hl (k := 0) rfl (nI_1 i) (by decide) rfl (fun ls hl => ?_)
      refine lv_goto (tgt := 7) hx hb d_Fi_copySortFrom_59 (by decide) ?_
      exact ih (i + 1, g, H, locs, ls) ⟨hlt, by rw [hst]; exact p1, p2, by rw [hst]; exact p3, hb2, hL, (lv_sub hl [0, 1, 2, 3] rfl)⟩ (by show bs.length - (i + 1) < bs.length - i; omega)
    · rw [if_pos c2] at hst
      refine lv_aload_n hx hb d_Fi_copySortFrom_31 rfl (lv_at hl 1 rfl) ?_
      refine x_get (ci := 5) (T := T_Fi) hx hb htb u_Fi hown hK p1 rfl 0 (by decide) (htb _ mw_51) (fun _ h9 => h9) (v := .ref r) rfl d_Fi_copySortFrom_32 ?_
      refine lv_aload_n hx hb d_Fi_copySortFrom_35 rfl (lv_at hl 1 rfl) ?_
      refine x_get (ci := 5) (T := T_Fi) hx hb htb u_Fi hown hK p1 rfl 1 (by decide) (htb _ mw_52) (fun _ h9 => h9) (v := .int (nI (g_sel bs fs x i).length)) rfl d_Fi_copySortFrom_36 ?_
      refine lv_aload_n hx hb d_Fi_copySortFrom_39 rfl (lv_at hl 2 rfl) ?_
      refine x_get (ci := 5) (T := T_Fi) hx hb htb u_Fi hown hK k1 rfl 0 (by decide) (htb _ mw_51) (fun _ h9 => h9) (v := .ref r2) rfl d_Fi_copySortFrom_40 ?_
      refine lv_iload_n hx hb d_Fi_copySortFrom_43 rfl (lv_at hl 0 rfl) ?_
      refine x_aldq hx hb hK 1 k2 rfl (vp_in_nI (by omega) (by omega)) (r := .ref a) (by rw [nI_clamp (by omega), k3 i a ha]; rfl) d_Fi_copySortFrom_44 ?_
      refine x_astq (F := fun q : Nat => q = h ∨ q = r) hx hb hK 1 2 p2 hL (Or.inr rfl) rfl f1 rfl (vp_in_nI (by omega) (by omega)) d_Fi_copySortFrom_45 (fun H3 locs p2 hm3 hL => ?_)
      have p1 := hm3.at p1 n1
      refine lv_aload_n hx hb d_Fi_copySortFrom_46 rfl (lv_at hl 1 rfl) ?_
      refine lv_dup hx hb d_Fi_copySortFrom_47 rfl ?_
      refine x_get (ci := 5) (T := T_Fi) hx hb htb u_Fi hown hK p1 rfl 1 (by decide) (htb _ mw_52) (fun _ h9 => h9) (v := .int (nI (g_sel bs fs x i).length)) rfl d_Fi_copySortFrom_48 ?_
      refine lv_iconst (v := 1) hx hb d_Fi_copySortFrom_51 (by decide) ?_
      refine lv_iadd hx hb d_Fi_copySortFrom_52 ?_
      refine x_top (y := nI ((g_sel bs fs x i).length + 1)) (nI_1 _) ?_
      refine x_put (F := fun q : Nat => q = h ∨ q = r) (ci := 5) (v := .int (nI ((g_sel bs fs x i).length + 1))) (ty := .int) (T := T_Fi) hx hb htb u_Fi t_Fi t_Fi_ok n_Fi hown hK p1 hL (Or.inl rfl) rfl 1 (by decide) (htb _ mw_52) (fun _ h9 => h9) rfl (by decide +kernel) rfl rfl (Nat.le_of_ble_eq_true rfl) d_Fi_copySortFrom_53 (fun H4 locs p4 hc3 hL => ?_)
      have p4 : va_at D x_cl (h, .inr (5, [.ref r, .int (nI ((g_sel bs fs x i).length + 1))])) H4 := p4
      refine lv_iinc (v := nI (i + 1)) (lv' := [(3, .int (nI (i + 1))), (0, .ref h), (1, .ref h2), (2, .int x)]) hx hb d_Fi_copySortFrom_56 hl (k := 0) rfl (nI_1 i) (by decide) rfl (fun ls hl => ?_)
      refine lv_goto (tgt := 7) hx hb d_Fi_copySortFrom_59 (by decide) ?_
      have e3 : (g_sel bs fs x (i + 1)).length = (g_sel bs fs x i).length + 1 := by rw [hst, List.length_append]; rfl
      refine ih (i + 1, _, H4, locs, ls) ⟨hlt, by rw [e3]; exact p4, hc3.at p2 n1.symm, fun j b hj => ?_, (hb2.trans (x_but2.r hm3)).trans (x_but2.l hc3), hL, (lv_sub hl [0, 1, 2, 3] rfl)⟩ (by show bs.length - (i + 1) < bs.length - i; omega)
      show va_up g (nI (g_sel bs fs x i).length).toNatClampNeg (some a) j = some b
      rw [nI_clamp (by omega)]
      rw [hst] at hj
      rcases Nat.lt_trichotomy j (g_sel bs fs x i).length with w | w | w
      · rw [va_up_ne _ _ (by omega)]; rw [List.getElem?_append_left w] at hj; exact p3 j b hj
      · subst w; rw [va_up_self]; rw [List.getElem?_append_right (Nat.le_refl _), Nat.sub_self] at hj; exact hj
      · rw [List.getElem?_eq_none (by rw [List.length_append]; show _ + 1 ≤ j; omega)] at hj; cases hj
set_option maxHeartbeats 4000000 in
set_option maxRecDepth 100000 in
theorem c_Fi_remove (l : Launch) {D : va_G} {A : Nat → ClassId} {H0 : Heap} {M : Nat → Prop} {h r b : Nat} {as : List Nat} {fs : List g_F} {n : g_N} (hf : g_fr D A 5 1 60 h r as H0) (hs : g_fs D A M as fs H0) (hn : g_nm D A M b n H0) (hM1 : M h) (hM2 : M r) (n1 : h ≠ r) : Met l y_Fi_remove w_Fi_remove { frames := 3, cells := 0, slots := 0, locals := 67 } (x_Pc D A [.ref h, .ref b] H0) (x_Q none (fun H1 => ∃ bs : List Nat, g_fr D A 5 1 60 h r bs H1 ∧ g_fs D A M bs (g_rem fs n) H1 ∧ x_but2 h r H0 H1)) 0 0 (fun q : Nat => q = h ∨ q = r) := by
  refine Met.ofW (cc := prog_3_method_10_code) (maxL := 4) (ret := none) (by decide) rfl ?_
  intro p e s m args below meth c s₁ B hml hv
  obtain ⟨rfl, hH, hK, hN⟩ := hv
  obtain ⟨hx, hb, hr, htb, hown, hlocks⟩ := x_start (wd := Cond.code y_Fi_remove prog_3_method_10_code 4 none) B
  have hl := lv_entry ([.ref h, .ref b]) (n := 4) (Nat.le_of_ble_eq_true rfl)
  rw [lg_entry_eq]
  generalize (lg_sl ([.ref h, .ref b]) ++ List.replicate (4 - (lg_sl ([.ref h, .ref b])).length) Slot.unset).toArray = ls at hl ⊢
  have hl : lv_has ls 4 [(0, .ref h), (1, .ref b)] := hl
  rw [hH]
  obtain ⟨g, h1, h2, h3, h4⟩ := id hf
  have hL : ∀ q ∈ ([] : List Loc), (fun q : Nat => q = h ∨ q = r) q.base := fun q hq => by cases hq
  refine lv_aload_n hx hb d_Fi_remove_0 rfl (lv_at hl 0 rfl) ?_
  refine lv_aload_n hx hb d_Fi_remove_1 rfl (lv_at hl 1 rfl) ?_
  refine x_callP (va_runV (As := [.ref b]) (rest := []) ⟨hx, hb, hml, hown, htb⟩ (c_Fi_indexOf l hf hs hn) (x_cV 1 htb mw_158 mw_3 mw_161 mw_160 ms_1 rfl rfl (by decide +kernel) ⟨Nat.le_of_ble_eq_true rfl, Nat.le_of_ble_eq_true rfl⟩) (x_preV hK hN h1 rfl) rfl rfl hl.1 rfl (lv_room (Nat.le_of_ble_eq_true rfl)) d_Fi_remove_2 ⟨Nat.le_of_ble_eq_true rfl, Nat.le_of_ble_eq_true rfl⟩) ?_
  refine W.eq (g2 := F0 m 5 ls [.int (g_ixv (g_find fs n))]) rfl ?_
  cases hfi : g_find fs n with
  | none =>
    refine x_top (y := (-1)) (rfl) ?_
    refine lv_istore_n (lv' := [(2, .int (-1)), (0, .ref h), (1, .ref b)]) hx hb d_Fi_remove_5 rfl hl (by decide) rfl (fun ls hl => ?_)
    refine lv_iload_n hx hb d_Fi_remove_6 rfl (lv_at hl 0 rfl) ?_
    refine lv_iconst (v := (-1)) hx hb d_Fi_remove_7 (by decide) ?_
    refine lv_icmp_ne (tgt := 12) hx hb d_Fi_remove_8 (by decide) (fun c9 => absurd rfl c9) (fun _ => ?_)
    exact x_vret hx hb hr hlocks ⟨as, hf, by unfold g_rem; rw [hfi]; exact hs, x_but2.refl⟩ hL (Nat.le_refl _) (Nat.le_refl _) d_Fi_remove_11
  | some i =>
    have hi : i < as.length := by rw [hs.1]; exact g_find_lt hfi
    refine x_top (y := nI i) (rfl) ?_
    refine lv_istore_n (lv' := [(2, .int (nI i)), (0, .ref h), (1, .ref b)]) hx hb d_Fi_remove_5 rfl hl (by decide) rfl (fun ls hl => ?_)
    refine lv_iload_n hx hb d_Fi_remove_6 rfl (lv_at hl 0 rfl) ?_
    refine lv_iconst (v := (-1)) hx hb d_Fi_remove_7 (by decide) ?_
    refine lv_icmp_ne (tgt := 12) hx hb d_Fi_remove_8 (by decide) (fun _ => ?_) (fun c9 => absurd c9 (fun q => absurd (q ▸ nI_pos (n := i) (by omega)) (by decide)))
    refine lv_aload_n hx hb d_Fi_remove_12 rfl (lv_at hl 1 rfl) ?_
    refine lv_dup hx hb d_Fi_remove_13 rfl ?_
    refine x_get (ci := 5) (T := T_Fi) hx hb htb u_Fi hown hK h1 rfl 1 (by decide) (htb _ mw_52) (fun _ h9 => h9) (v := .int (nI as.length)) rfl d_Fi_remove_14 ?_
    refine lv_iconst (v := 1) hx hb d_Fi_remove_17 (by decide) ?_
    refine lv_isub hx hb d_Fi_remove_18 ?_
    refine x_top (y := nI (as.length - 1)) (pk_sub (a := as.length) (b := 1) (by omega)) ?_
    refine x_put (F := fun q : Nat => q = h ∨ q = r) (ci := 5) (v := .int (nI (as.length - 1))) (ty := .int) (T := T_Fi) hx hb htb u_Fi t_Fi t_Fi_ok n_Fi hown hK h1 hL (Or.inl rfl) rfl 1 (by decide) (htb _ mw_52) (fun _ h9 => h9) rfl (by decide +kernel) rfl rfl (Nat.le_of_ble_eq_true rfl) d_Fi_remove_19 (fun H1 locs q1 hc4 hL => ?_)
    have q1 : va_at D x_cl (h, .inr (5, [.ref r, .int (nI (as.length - 1))])) H1 := q1
    have q2 := hc4.at h2 n1.symm
    refine lv_iload_n hx hb d_Fi_remove_22 rfl (lv_at hl 0 rfl) ?_
    refine lv_istore_n (lv' := [(3, .int (nI i)), (2, .int (nI i)), (0, .ref h), (1, .ref b)]) hx hb d_Fi_remove_23 rfl hl (by decide) rfl (fun ls hl => ?_)
    refine x_loop (σ := Nat × (Nat → Option Nat) × Heap × List Loc × Array Slot) (fun z => F0 m 24 z.2.2.2.2 []) (fun z => z.2.2.1) (fun z => z.2.2.2.1) (fun z => i ≤ z.1 ∧ z.1 ≤ as.length - 1 ∧ va_at D x_cl (h, .inr (5, [.ref r, .int (nI (as.length - 1))])) z.2.2.1 ∧ va_at D x_cl (r, .inl (A 1, 60, .inr (.inr (.inr (.inr z.2.1))))) z.2.2.1 ∧ (∀ (j a : Nat), j < z.1 → (as.eraseIdx i)[j]? = some a → z.2.1 j = some a) ∧ (∀ (j a : Nat), z.1 < j → as[j]? = some a → z.2.1 j = some a) ∧ x_but2 h r H0 z.2.2.1 ∧ (∀ q ∈ z.2.2.2.1, (fun q : Nat => q = h ∨ q = r) q.base) ∧ lv_has z.2.2.2.2 4 [(3, .int (nI z.1)), (0, .ref h)]) (fun z => as.length - z.1) (s0 := (i, g, H1, locs, ls)) ⟨Nat.le_refl _, by show i ≤ as.length - 1; omega, q1, q2, fun j a q q3 => by rw [List.getElem?_eraseIdx, if_pos q] at q3; exact h3 j a q3, fun j a _ q3 => h3 j a q3, x_but2.l hc4, hL, (lv_sub hl [0, 2] rfl)⟩ ?_
    rintro ⟨k, g, H, locs, ls⟩ ⟨hik, hk, p1, p2, p3, p4, hb2, hL, hl⟩ ih
    dsimp only at hik hk p1 p2 p3 p4 hb2 hL hl ih ⊢
    refine lv_iload_n hx hb d_Fi_remove_24 rfl (lv_at hl 0 rfl) ?_
    refine lv_aload_n hx hb d_Fi_remove_25 rfl (lv_at hl 1 rfl) ?_
    refine x_get (ci := 5) (T := T_Fi) hx hb htb u_Fi hown hK p1 rfl 1 (by decide) (htb _ mw_52) (fun _ h9 => h9) (v := .int (nI (as.length - 1))) rfl d_Fi_remove_26 ?_
    refine lv_icmp_ge (tgt := 52) hx hb d_Fi_remove_29 (by decide) (fun c1 => ?_) (fun c1 => ?_)
    · have e : k = as.length - 1 := Nat.le_antisymm hk (Nat.le_of_not_lt fun q => absurd c1 (nI_ge q (by omega)))
      have el : (as.eraseIdx i).length = as.length - 1 := by rw [List.length_eraseIdx, if_pos hi]
      exact x_vret hx hb hr hlocks ⟨as.eraseIdx i, ⟨g, by rw [el]; exact p1, p2, fun j a q => p3 j a (by rw [e, ← el]; exact (List.getElem?_eq_some_iff.mp q).1) q, by rw [el]; omega⟩, by unfold g_rem; rw [hfi]; exact (hs.erase i).kept (hb2.K hM1 hM2), hb2⟩ hL (Nat.le_refl _) (Nat.le_refl _) d_Fi_remove_52
    · have hlt : k < as.length - 1 := Nat.lt_of_not_le fun q => absurd (nI_le q (by omega)) c1
      obtain ⟨a, ha⟩ := g_ex (as := as) (j := k + 1) (by omega)
      obtain ⟨f, hff⟩ := g_ex (as := fs) (j := k + 1) (by rw [← hs.1]; omega)
      obtain ⟨na, ca, f1, f2, f3, f4⟩ := (hs.2 _ a f ha hff).kept (hb2.K hM1 hM2)
      refine lv_aload_n hx hb d_Fi_remove_32 rfl (lv_at hl 1 rfl) ?_
      refine x_get (ci := 5) (T := T_Fi) hx hb htb u_Fi hown hK p1 rfl 0 (by decide) (htb _ mw_51) (fun _ h9 => h9) (v := .ref r) rfl d_Fi_remove_33 ?_
      refine lv_iload_n hx hb d_Fi_remove_36 rfl (lv_at hl 0 rfl) ?_
      refine lv_aload_n hx hb d_Fi_remove_37 rfl (lv_at hl 1 rfl) ?_
      refine x_get (ci := 5) (T := T_Fi) hx hb htb u_Fi hown hK p1 rfl 0 (by decide) (htb _ mw_51) (fun _ h9 => h9) (v := .ref r) rfl d_Fi_remove_38 ?_
      refine lv_iload_n hx hb d_Fi_remove_41 rfl (lv_at hl 0 rfl) ?_
      refine lv_iconst (v := 1) hx hb d_Fi_remove_42 (by decide) ?_
      refine lv_iadd hx hb d_Fi_remove_43 ?_
      refine x_top (y := nI (k + 1)) (nI_1 k) ?_
      refine x_aldq hx hb hK 1 p2 rfl (vp_in_nI (by omega) (by omega)) (r := .ref a) (by rw [nI_clamp (by omega), p4 (k + 1) a (by omega) ha]; rfl) d_Fi_remove_44 ?_
      refine x_astq (F := fun q : Nat => q = h ∨ q = r) hx hb hK 1 2 p2 hL (Or.inr rfl) rfl f1 rfl (vp_in_nI (by omega) (by omega)) d_Fi_remove_45 (fun H3 locs p2 hm3 hL => ?_)
      refine lv_iinc (v := nI (k + 1)) (lv' := [(3, .int (nI (k + 1))), (0, .ref h)]) hx hb d_Fi_remove_46 hl (k := 0) rfl (nI_1 k) (by decide) rfl (fun ls hl => ?_)
      refine lv_goto (tgt := 24) hx hb d_Fi_remove_49 (by decide) ?_
      refine ih (k + 1, _, H3, locs, ls) ⟨by show i ≤ k + 1; omega, by show k + 1 ≤ as.length - 1; omega, hm3.at p1 n1, p2, fun j b q q2 => ?_, fun j b q q2 => ?_, hb2.trans (x_but2.r hm3), hL, (lv_sub hl [0, 1] rfl)⟩ (by show as.length - (k + 1) < as.length - k; omega)
      · show va_up g (nI k).toNatClampNeg (some a) j = some b
        rw [nI_clamp (by omega)]
        rcases Nat.lt_succ_iff_lt_or_eq.mp q with q | q
        · rw [va_up_ne _ _ (by omega)]; exact p3 j b q q2
        · subst q; rw [va_up_self]; rw [List.getElem?_eraseIdx, if_neg (by omega)] at q2; rw [← ha, q2]
      · show va_up g (nI k).toNatClampNeg (some a) j = some b
        have q : k + 1 < j := q
        rw [nI_clamp (by omega), va_up_ne _ _ (by omega)]; exact p4 j b (by omega) q2
set_option maxHeartbeats 4000000 in
set_option maxRecDepth 100000 in
theorem c_Fi_insert (l : Launch) {D : va_G} {A : Nat → ClassId} {H0 : Heap} {M : Nat → Prop} {h r b : Nat} {as : List Nat} {fs : List g_F} {f : g_F} (hf : g_fr D A 5 1 60 h r as H0) (hs : g_fs D A M as fs H0) (hn : g_sf D A M b f H0) (hM1 : M h) (hM2 : M r) (n1 : h ≠ r) : Met l y_Fi_insert w_Fi_insert { frames := 2, cells := 0, slots := 0, locals := 45 } (x_Pc D A [.ref h, .ref b] H0) (x_Q none (fun H1 => ∃ bs : List Nat, g_fr D A 5 1 60 h r bs H1 ∧ g_fs D A M bs (g_ins fs f) H1 ∧ x_but2 h r H0 H1)) 0 0 (fun q : Nat => q = h ∨ q = r) := by
  refine Met.ofW (cc := prog_3_method_11_code) (maxL := 3) (ret := none) (by decide) rfl ?_
  intro p e s m args below meth c s₁ B hml hv
  obtain ⟨rfl, hH, hK, hN⟩ := hv
  obtain ⟨hx, hb, hr, htb, hown, hlocks⟩ := x_start (wd := Cond.code y_Fi_insert prog_3_method_11_code 3 none) B
  have hl := lv_entry ([.ref h, .ref b]) (n := 3) (Nat.le_of_ble_eq_true rfl)
  rw [lg_entry_eq]
  generalize (lg_sl ([.ref h, .ref b]) ++ List.replicate (3 - (lg_sl ([.ref h, .ref b])).length) Slot.unset).toArray = ls at hl ⊢
  have hl : lv_has ls 3 [(0, .ref h), (1, .ref b)] := hl
  rw [hH]
  obtain ⟨g, h1, h2, h3, h4⟩ := id hf
  have hL : ∀ q ∈ ([] : List Loc), (fun q : Nat => q = h ∨ q = r) q.base := fun q hq => by cases hq
  refine lv_aload_n hx hb d_Fi_insert_0 rfl (lv_at hl 0 rfl) ?_
  refine x_callP (va_runV (As := []) (rest := []) ⟨hx, hb, hml, hown, htb⟩ (c_Fi_isFull l hf) (x_cV 0 htb mw_414 mw_3 mw_341 mw_339 mw_340 rfl rfl (by decide +kernel) ⟨Nat.le_of_ble_eq_true rfl, Nat.le_of_ble_eq_true rfl⟩) (x_preV hK hN h1 rfl) rfl rfl hl.1 rfl (lv_room (Nat.le_of_ble_eq_true rfl)) d_Fi_insert_1 ⟨Nat.le_of_ble_eq_true rfl, Nat.le_of_ble_eq_true rfl⟩) ?_
  refine W.eq (g2 := F0 m 4 ls [.int (if 60 ≤ as.length then 1 else 0)]) rfl ?_
  refine lv_if_eq (tgt := 8) hx hb d_Fi_insert_4 (by decide) (fun c0 => ?_) (fun c0 => ?_)
  · have hlt0 : as.length < 60 := Nat.lt_of_not_le fun q => by rw [if_pos q] at c0; exact absurd c0 (by decide)
    refine lv_aload_n hx hb d_Fi_insert_8 rfl (lv_at hl 0 rfl) ?_
    refine x_get (ci := 5) (T := T_Fi) hx hb htb u_Fi hown hK h1 rfl 1 (by decide) (htb _ mw_52) (fun _ h9 => h9) (v := .int (nI as.length)) rfl d_Fi_insert_9 ?_
    refine lv_istore_n (lv' := [(2, .int (nI as.length)), (0, .ref h), (1, .ref b)]) hx hb d_Fi_insert_12 rfl hl (by decide) rfl (fun ls hl => ?_)
    refine x_loop (σ := Nat × (Nat → Option Nat) × Heap × List Loc × Array Slot) (fun z => F0 m 13 z.2.2.2.2 []) (fun z => z.2.2.1) (fun z => z.2.2.2.1) (fun z => z.1 ≤ as.length ∧ g_pos fs f.1 as.length = g_pos fs f.1 z.1 ∧ va_at D x_cl (h, .inr (5, [.ref r, .int (nI as.length)])) z.2.2.1 ∧ va_at D x_cl (r, .inl (A 1, 60, .inr (.inr (.inr (.inr z.2.1))))) z.2.2.1 ∧ (∀ (j a : Nat), j < z.1 → as[j]? = some a → z.2.1 j = some a) ∧ (∀ (j a : Nat), z.1 ≤ j → as[j]? = some a → z.2.1 (j + 1) = some a) ∧ x_but2 h r H0 z.2.2.1 ∧ (∀ q ∈ z.2.2.2.1, (fun q : Nat => q = h ∨ q = r) q.base) ∧ lv_has z.2.2.2.2 3 [(2, .int (nI z.1)), (0, .ref h), (1, .ref b)]) (fun z => z.1) (s0 := (as.length, g, H0, [], ls)) ⟨Nat.le_refl _, rfl, h1, h2, fun j a _ q3 => h3 j a q3, fun j a q q3 => absurd (List.getElem?_eq_some_iff.mp q3).1 (by have q : as.length ≤ j := q; omega), x_but2.refl, hL, (lv_sub hl [0, 1, 2] rfl)⟩ ?_
    rintro ⟨i, g, H, locs, ls⟩ ⟨hi, hps, p1, p2, p3, p4, hb2, hL, hl⟩ ih
    dsimp only at hi hps p1 p2 p3 p4 hb2 hL hl ih ⊢
    have hn2 := hn.kept (hb2.K hM1 hM2)
    obtain ⟨nb, cb, b1, b2, b3, b4⟩ := id hn2
    obtain ⟨pb, b5, b6⟩ := id b3
    refine lv_iload_n hx hb d_Fi_insert_13 rfl (lv_at hl 0 rfl) ?_
    refine lv_if_le (tgt := 58) hx hb d_Fi_insert_14 (by decide) (fun c1 => ?_) (fun c1 => ?_)
    · have e : i = 0 := by
        rcases Nat.eq_zero_or_pos i with q | q
        · exact q
        · exact absurd c1 (nI_nle q (by omega))
      refine lv_aload_n hx hb d_Fi_insert_58 rfl (lv_at hl 1 rfl) ?_
      refine x_get (ci := 5) (T := T_Fi) hx hb htb u_Fi hown hK p1 rfl 0 (by decide) (htb _ mw_51) (fun _ h9 => h9) (v := .ref r) rfl d_Fi_insert_59 ?_
      refine lv_iload_n hx hb d_Fi_insert_62 rfl (lv_at hl 0 rfl) ?_
      refine lv_aload_n hx hb d_Fi_insert_63 rfl (lv_at hl 2 rfl) ?_
      refine x_astq (F := fun q : Nat => q = h ∨ q = r) hx hb hK 1 2 p2 hL (Or.inr rfl) rfl b1 rfl (vp_in_nI (by omega) (by omega)) d_Fi_insert_64 (fun H3 locs p2 hm3 hL => ?_)
      have p1 := hm3.at p1 n1
      refine lv_aload_n hx hb d_Fi_insert_65 rfl (lv_at hl 1 rfl) ?_
      refine lv_dup hx hb d_Fi_insert_66 rfl ?_
      refine x_get (ci := 5) (T := T_Fi) hx hb htb u_Fi hown hK p1 rfl 1 (by decide) (htb _ mw_52) (fun _ h9 => h9) (v := .int (nI as.length)) rfl d_Fi_insert_67 ?_
      refine lv_iconst (v := 1) hx hb d_Fi_insert_70 (by decide) ?_
      refine lv_iadd hx hb d_Fi_insert_71 ?_
      refine x_top (y := nI (as.length + 1)) (nI_1 _) ?_
      refine x_put (F := fun q : Nat => q = h ∨ q = r) (ci := 5) (v := .int (nI (as.length + 1))) (ty := .int) (T := T_Fi) hx hb htb u_Fi t_Fi t_Fi_ok n_Fi hown hK p1 hL (Or.inl rfl) rfl 1 (by decide) (htb _ mw_52) (fun _ h9 => h9) rfl (by decide +kernel) rfl rfl (Nat.le_of_ble_eq_true rfl) d_Fi_insert_72 (fun H4 locs p5 hc5 hL => ?_)
      have p5 : va_at D x_cl (h, .inr (5, [.ref r, .int (nI (as.length + 1))])) H4 := p5
      have el : (as.insertIdx i b).length = as.length + 1 := by rw [List.length_insertIdx, if_pos hi]
      have hb4 := (hb2.trans (x_but2.r hm3)).trans (x_but2.l hc5)
      refine x_vret hx hb hr hlocks ⟨as.insertIdx i b, ⟨_, by rw [el]; exact p5, hc5.at p2 n1.symm, fun j a q => ?_, by rw [el]; omega⟩, ?_, hb4⟩ hL (Nat.le_refl _) (Nat.le_refl _) d_Fi_insert_75
      · show va_up g (nI i).toNatClampNeg (some b) j = some a
        rw [nI_clamp (by omega)]
        rcases g_insIdx hi q with ⟨w, w1⟩ | ⟨w, w1⟩ | ⟨w, w1⟩
        · rw [va_up_ne _ _ (by omega)]; exact p3 j a w w1
        · rw [w, w1, va_up_self]
        · rw [va_up_ne _ _ (by omega)]; have := p4 (j - 1) a (by omega) w1; rwa [Nat.sub_add_cancel (by omega)] at this
      · unfold g_ins
        rw [if_neg (by rw [← hs.1]; omega), ← hs.1, hps, show g_pos fs f.1 i = i by rw [e]; rfl]
        exact ((hs.ins hn hi).kept (hb4.K hM1 hM2))
    · obtain ⟨k, rfl⟩ : ∃ k, i = k + 1 := by
        cases i with
        | zero => exact absurd (by rw [nI_0]; decide) c1
        | succ k => exact ⟨k, rfl⟩
      obtain ⟨a, ha⟩ := g_ex (as := as) (j := k) (by omega)
      obtain ⟨e2, hee⟩ := g_ex (as := fs) (j := k) (by rw [← hs.1]; omega)
      obtain ⟨na, ca, f1, f2, f3, f4⟩ := (hs.2 _ a e2 ha hee).kept (hb2.K hM1 hM2)
      refine lv_aload_n hx hb d_Fi_insert_17 rfl (lv_at hl 2 rfl) ?_
      refine x_getN (ci := 2) (T := T_Sf) hx hb htb u_Sf hown hK b1 rfl 0 (by decide) (va_Nw.use rfl (hN.1 _ nf_376)) (fun _ h9 => h9) (v := .ref nb) rfl d_Fi_insert_18 ?_
      refine lv_aload_n hx hb d_Fi_insert_21 rfl (lv_at hl 1 rfl) ?_
      refine x_get (ci := 5) (T := T_Fi) hx hb htb u_Fi hown hK p1 rfl 0 (by decide) (htb _ mw_51) (fun _ h9 => h9) (v := .ref r) rfl d_Fi_insert_22 ?_
      refine lv_iload_n hx hb d_Fi_insert_25 rfl (lv_at hl 0 rfl) ?_
      refine lv_iconst (v := 1) hx hb d_Fi_insert_26 (by decide) ?_
      refine lv_isub hx hb d_Fi_insert_27 ?_
      refine x_top (y := nI k) (nI_pred k) ?_
      refine x_aldq hx hb hK 1 p2 rfl (vp_in_nI (by omega) (by omega)) (r := .ref a) (by rw [nI_clamp (by omega), p3 k a (by omega) ha]; rfl) d_Fi_insert_28 ?_
      refine x_getN (ci := 2) (T := T_Sf) hx hb htb u_Sf hown hK f1 rfl 0 (by decide) (va_Nw.use rfl (hN.1 _ nf_376)) (fun _ h9 => h9) (v := .ref na) rfl d_Fi_insert_29 ?_
      refine x_callP (va_runV (As := [.ref na]) (rest := []) ⟨hx, hb, hml, hown, htb⟩ (c_Nm_order l b3 f3) (x_cV 1 htb mw_162 mw_15 mw_165 mw_163 mw_164 rfl rfl (by decide +kernel) ⟨Nat.le_of_ble_eq_true rfl, Nat.le_of_ble_eq_true rfl⟩) (x_preV hK hN b5 rfl) rfl rfl hl.1 rfl (lv_room (Nat.le_of_ble_eq_true rfl)) d_Fi_insert_32 ⟨Nat.le_of_ble_eq_true rfl, Nat.le_of_ble_eq_true rfl⟩) ?_
      refine W.eq (g2 := F0 m 35 ls [.int (g_no f.1 e2.1)]) rfl ?_
      refine lv_if_ge (tgt := 58) hx hb d_Fi_insert_35 (by decide) (fun c2 => ?_) (fun c2 => ?_)
      · have hstop := g_pos_stop hee (Int32.not_lt.mpr c2)
        generalize hi1 : k + 1 = i at *
        refine lv_aload_n hx hb d_Fi_insert_58 rfl (lv_at hl 1 rfl) ?_
        refine x_get (ci := 5) (T := T_Fi) hx hb htb u_Fi hown hK p1 rfl 0 (by decide) (htb _ mw_51) (fun _ h9 => h9) (v := .ref r) rfl d_Fi_insert_59 ?_
        refine lv_iload_n hx hb d_Fi_insert_62 rfl (lv_at hl 0 rfl) ?_
        refine lv_aload_n hx hb d_Fi_insert_63 rfl (lv_at hl 2 rfl) ?_
        refine x_astq (F := fun q : Nat => q = h ∨ q = r) hx hb hK 1 2 p2 hL (Or.inr rfl) rfl b1 rfl (vp_in_nI (by omega) (by omega)) d_Fi_insert_64 (fun H3 locs p2 hm3 hL => ?_)
        have p1 := hm3.at p1 n1
        refine lv_aload_n hx hb d_Fi_insert_65 rfl (lv_at hl 1 rfl) ?_
        refine lv_dup hx hb d_Fi_insert_66 rfl ?_
        refine x_get (ci := 5) (T := T_Fi) hx hb htb u_Fi hown hK p1 rfl 1 (by decide) (htb _ mw_52) (fun _ h9 => h9) (v := .int (nI as.length)) rfl d_Fi_insert_67 ?_
        refine lv_iconst (v := 1) hx hb d_Fi_insert_70 (by decide) ?_
        refine lv_iadd hx hb d_Fi_insert_71 ?_
        refine x_top (y := nI (as.length + 1)) (nI_1 _) ?_
        refine x_put (F := fun q : Nat => q = h ∨ q = r) (ci := 5) (v := .int (nI (as.length + 1))) (ty := .int) (T := T_Fi) hx hb htb u_Fi t_Fi t_Fi_ok n_Fi hown hK p1 hL (Or.inl rfl) rfl 1 (by decide) (htb _ mw_52) (fun _ h9 => h9) rfl (by decide +kernel) rfl rfl (Nat.le_of_ble_eq_true rfl) d_Fi_insert_72 (fun H4 locs p5 hc6 hL => ?_)
        have p5 : va_at D x_cl (h, .inr (5, [.ref r, .int (nI (as.length + 1))])) H4 := p5
        have el : (as.insertIdx i b).length = as.length + 1 := by rw [List.length_insertIdx, if_pos hi]
        have hb4 := (hb2.trans (x_but2.r hm3)).trans (x_but2.l hc6)
        refine x_vret hx hb hr hlocks ⟨as.insertIdx i b, ⟨_, by rw [el]; exact p5, hc6.at p2 n1.symm, fun j a q => ?_, by rw [el]; omega⟩, ?_, hb4⟩ hL (Nat.le_refl _) (Nat.le_refl _) d_Fi_insert_75
        · show va_up g (nI i).toNatClampNeg (some b) j = some a
          rw [nI_clamp (by omega)]
          rcases g_insIdx hi q with ⟨w, w1⟩ | ⟨w, w1⟩ | ⟨w, w1⟩
          · rw [va_up_ne _ _ (by omega)]; exact p3 j a w w1
          · rw [w, w1, va_up_self]
          · rw [va_up_ne _ _ (by omega)]; have := p4 (j - 1) a (by omega) w1; rwa [Nat.sub_add_cancel (by omega)] at this
        · unfold g_ins
          rw [if_neg (by rw [← hs.1]; omega), ← hs.1, hps, hstop]
          exact ((hs.ins hn hi).kept (hb4.K hM1 hM2))
      · refine lv_aload_n hx hb d_Fi_insert_38 rfl (lv_at hl 1 rfl) ?_
        refine x_get (ci := 5) (T := T_Fi) hx hb htb u_Fi hown hK p1 rfl 0 (by decide) (htb _ mw_51) (fun _ h9 => h9) (v := .ref r) rfl d_Fi_insert_39 ?_
        refine lv_iload_n hx hb d_Fi_insert_42 rfl (lv_at hl 0 rfl) ?_
        refine lv_aload_n hx hb d_Fi_insert_43 rfl (lv_at hl 1 rfl) ?_
        refine x_get (ci := 5) (T := T_Fi) hx hb htb u_Fi hown hK p1 rfl 0 (by decide) (htb _ mw_51) (fun _ h9 => h9) (v := .ref r) rfl d_Fi_insert_44 ?_
        refine lv_iload_n hx hb d_Fi_insert_47 rfl (lv_at hl 0 rfl) ?_
        refine lv_iconst (v := 1) hx hb d_Fi_insert_48 (by decide) ?_
        refine lv_isub hx hb d_Fi_insert_49 ?_
        refine x_top (y := nI k) (nI_pred k) ?_
        refine x_aldq hx hb hK 1 p2 rfl (vp_in_nI (by omega) (by omega)) (r := .ref a) (by rw [nI_clamp (by omega), p3 k a (by omega) ha]; rfl) d_Fi_insert_50 ?_
        refine x_astq (F := fun q : Nat => q = h ∨ q = r) hx hb hK 1 2 p2 hL (Or.inr rfl) rfl f1 rfl (vp_in_nI (by omega) (by omega)) d_Fi_insert_51 (fun H3 locs p2 hm3 hL => ?_)
        refine lv_iinc (v := nI k) (lv' := [(2, .int (nI k)), (0, .ref h), (1, .ref b)]) hx hb d_Fi_insert_52 hl (k := 0) rfl (pk_m1 k) (by decide) rfl (fun ls hl => ?_)
        refine lv_goto (tgt := 13) hx hb d_Fi_insert_55 (by decide) ?_
        refine ih (k, _, H3, locs, ls) ⟨by show k ≤ as.length; omega, hps.trans (g_pos_step hee (Int32.not_le.mp c2)), hm3.at p1 n1, p2, fun j b q q2 => ?_, fun j b q q2 => ?_, hb2.trans (x_but2.r hm3), hL, (lv_sub hl [0, 1, 2] rfl)⟩ (Nat.lt_succ_self k)
        · show va_up g (nI (k + 1)).toNatClampNeg (some a) j = some b
          have q : j < k := q
          rw [nI_clamp (by omega), va_up_ne _ _ (by omega)]; exact p3 j b (by omega) q2
        · show va_up g (nI (k + 1)).toNatClampNeg (some a) (j + 1) = some b
          have q : k ≤ j := q
          rw [nI_clamp (by omega)]
          rcases Nat.eq_or_lt_of_le q with q | q
          · subst q; rw [va_up_self, ← ha, q2]
          · rw [va_up_ne _ _ (by omega)]; exact p4 j b (by omega) q2
  · have hge : 60 ≤ as.length := Nat.le_of_not_lt fun q => c0 (if_neg (by omega))
    exact x_vret hx hb hr hlocks ⟨as, hf, by unfold g_ins; rw [if_pos (by rw [← hs.1]; exact hge)]; exact hs, x_but2.refl⟩ hL (Nat.le_refl _) (Nat.le_refl _) d_Fi_insert_7
end
section
set_option maxHeartbeats 4000000 in
set_option maxRecDepth 100000 in
theorem c_Fi_apply (l : Launch) {D : va_G} {A : Nat → ClassId} {H0 : Heap} {M : Nat → Prop} {h r b : Nat} {as : List Nat} {fs : List g_F} {o : g_O} (hf : g_fr D A 5 1 60 h r as H0) (hs : g_fs D A M as fs H0) (hn : g_op D A M b o H0) (hM1 : M h) (hM2 : M r) (n1 : h ≠ r) : Met l y_Fi_apply w_Fi_apply { frames := 4, cells := 0, slots := 0, locals := 90 } (x_Pc D A [.ref h, .ref b] H0) (x_Q none (fun H1 => ∃ bs : List Nat, g_fr D A 5 1 60 h r bs H1 ∧ g_fs D A M bs (g_ap fs o) H1 ∧ x_but2 h r H0 H1)) 0 0 (fun q : Nat => q = h ∨ q = r) := by
  refine Met.ofW (cc := prog_3_method_6_code) (maxL := 2) (ret := none) (by decide) rfl ?_
  intro p e s m args below meth c s₁ B hml hv
  obtain ⟨rfl, hH, hK, hN⟩ := hv
  obtain ⟨hx, hb, hr, htb, hown, hlocks⟩ := x_start (wd := Cond.code y_Fi_apply prog_3_method_6_code 2 none) B
  have hl := lv_entry ([.ref h, .ref b]) (n := 2) (Nat.le_of_ble_eq_true rfl)
  rw [lg_entry_eq]
  generalize (lg_sl ([.ref h, .ref b]) ++ List.replicate (2 - (lg_sl ([.ref h, .ref b])).length) Slot.unset).toArray = ls at hl ⊢
  have hl : lv_has ls 2 [(0, .ref h), (1, .ref b)] := hl
  rw [hH]
  obtain ⟨g, h1, -⟩ := id hf
  obtain ⟨nb, vb, b1, b2, b3, b4⟩ := id hn
  have hL : ∀ q ∈ ([] : List Loc), (fun q : Nat => q = h ∨ q = r) q.base := fun q hq => by cases hq
  refine lv_aload_n hx hb d_Fi_apply_0 rfl (lv_at hl 0 rfl) ?_
  refine lv_aload_n hx hb d_Fi_apply_1 rfl (lv_at hl 1 rfl) ?_
  refine x_getN (ci := 3) (T := T_Op) hx hb htb u_Op hown hK b1 rfl 0 (by decide) (va_Nw.use rfl (hN.1 _ nf_390)) (fun _ h9 => h9) (v := .ref nb) rfl d_Fi_apply_2 ?_
  refine x_call (F := fun q : Nat => q = h ∨ q = r) (va_runV (As := [.ref nb]) (rest := []) ⟨hx, hb, hml, hown, htb⟩ (c_Fi_remove l hf hs b3 hM1 hM2 n1) (x_cV 1 htb mw_406 mw_3 mw_409 mw_408 ms_5 rfl rfl (by decide +kernel) ⟨Nat.le_of_ble_eq_true rfl, Nat.le_of_ble_eq_true rfl⟩) (x_preV hK hN h1 rfl) rfl rfl hl.1 rfl (lv_room (Nat.le_of_ble_eq_true rfl)) d_Fi_apply_5 ⟨Nat.le_of_ble_eq_true rfl, Nat.le_of_ble_eq_true rfl⟩) hL (fun q hq => hq) (fun H1 locs hP hL => ?_)
  refine W.eq (g2 := F0 m 8 ls []) rfl ?_
  obtain ⟨bs, hf1, hs1, hb1⟩ := hP
  have hk1 := hb1.K hM1 hM2
  have b1 := hk1.at b1 b2
  have b4 := b4.kept hk1
  refine lv_aload_n hx hb d_Fi_apply_8 rfl (lv_at hl 1 rfl) ?_
  refine x_getN (ci := 3) (T := T_Op) hx hb htb u_Op hown hK b1 rfl 1 (by decide) (va_Nw.use rfl (hN.1 _ nf_392)) (fun _ h9 => h9) (v := va_rf vb) rfl d_Fi_apply_9 ?_
  obtain ⟨on, oc⟩ := o
  dsimp only at b3 b4 hs1
  cases vb with
  | none =>
    cases oc with
    | some f => exact False.elim b4
    | none =>
      refine lv_ifnullN (tgt := 34) hx hb d_Fi_apply_12 (by decide) ?_
      exact x_vret hx hb hr hlocks ⟨bs, hf1, hs1, hb1⟩ hL (Nat.le_refl _) (Nat.le_refl _) d_Fi_apply_34
  | some fa =>
    cases oc with
    | none => exact False.elim b4
    | some f =>
      refine lv_ifnull hx hb d_Fi_apply_12 ?_
      have b4 : g_sf D A M fa f H1 := b4
      obtain ⟨na, ca, f1, f2, f3, f4⟩ := id b4
      obtain ⟨g2, h2, -⟩ := id hf1
      have b1 : va_at D x_cl (b, .inr (3, [.ref nb, .ref fa])) H1 := b1
      refine lv_aload_n hx hb d_Fi_apply_15 rfl (lv_at hl 0 rfl) ?_
      refine lv_aload_n hx hb d_Fi_apply_16 rfl (lv_at hl 1 rfl) ?_
      refine x_getN (ci := 3) (T := T_Op) hx hb htb u_Op hown hK b1 rfl 1 (by decide) (va_Nw.use rfl (hN.1 _ nf_392)) (fun _ h9 => h9) (v := .ref fa) rfl d_Fi_apply_17 ?_
      refine x_getN (ci := 2) (T := T_Sf) hx hb htb u_Sf hown hK f1 rfl 0 (by decide) (va_Nw.use rfl (hN.1 _ nf_376)) (fun _ h9 => h9) (v := .ref na) rfl d_Fi_apply_20 ?_
      refine x_call (F := fun q : Nat => q = h ∨ q = r) (va_runV (As := [.ref na]) (rest := []) ⟨hx, hb, hml, hown, htb⟩ (c_Fi_remove l hf1 hs1 f3 hM1 hM2 n1) (x_cV 1 htb mw_406 mw_3 mw_409 mw_408 ms_5 rfl rfl (by decide +kernel) ⟨Nat.le_of_ble_eq_true rfl, Nat.le_of_ble_eq_true rfl⟩) (x_preV hK hN h2 rfl) rfl rfl hl.1 rfl (lv_room (Nat.le_of_ble_eq_true rfl)) d_Fi_apply_23 ⟨Nat.le_of_ble_eq_true rfl, Nat.le_of_ble_eq_true rfl⟩) hL (fun q hq => hq) (fun H2 locs hP hL => ?_)
      refine W.eq (g2 := F0 m 26 ls []) rfl ?_
      obtain ⟨cs, hf2, hs2, hb2⟩ := hP
      have hk2 := hb2.K hM1 hM2
      have b1 := hk2.at b1 b2
      have b4 := b4.kept hk2
      obtain ⟨g3, h3, -⟩ := id hf2
      refine lv_aload_n hx hb d_Fi_apply_26 rfl (lv_at hl 0 rfl) ?_
      refine lv_aload_n hx hb d_Fi_apply_27 rfl (lv_at hl 1 rfl) ?_
      refine x_getN (ci := 3) (T := T_Op) hx hb htb u_Op hown hK b1 rfl 1 (by decide) (va_Nw.use rfl (hN.1 _ nf_392)) (fun _ h9 => h9) (v := .ref fa) rfl d_Fi_apply_28 ?_
      refine x_call (F := fun q : Nat => q = h ∨ q = r) (va_runV (As := [.ref fa]) (rest := []) ⟨hx, hb, hml, hown, htb⟩ (c_Fi_insert l hf2 hs2 b4 hM1 hM2 n1) (x_cV 1 htb mw_410 mw_3 mw_413 mw_412 ms_6 rfl rfl (by decide +kernel) ⟨Nat.le_of_ble_eq_true rfl, Nat.le_of_ble_eq_true rfl⟩) (x_preV hK hN h3 rfl) rfl rfl hl.1 rfl (lv_room (Nat.le_of_ble_eq_true rfl)) d_Fi_apply_31 ⟨Nat.le_of_ble_eq_true rfl, Nat.le_of_ble_eq_true rfl⟩) hL (fun q hq => hq) (fun H3 locs hP hL => ?_)
      refine W.eq (g2 := F0 m 34 ls []) rfl ?_
      obtain ⟨ds, hf3, hs3, hb3⟩ := hP
      exact x_vret hx hb hr hlocks ⟨ds, hf3, hs3, (hb1.trans hb2).trans hb3⟩ hL (Nat.le_refl _) (Nat.le_refl _) d_Fi_apply_34
set_option maxHeartbeats 4000000 in
set_option maxRecDepth 100000 in
theorem c_Jo_clear (l : Launch) {D : va_G} {A : Nat → ClassId} {H0 : Heap} {h r : Nat} {as : List Nat} (hf : g_fr D A 6 2 200 h r as H0) (n1 : h ≠ r) : Met l y_Jo_clear w_Jo_clear { frames := 0, cells := 0, slots := 0, locals := 0 } (x_Pc D A [.ref h] H0) (x_Q none (fun H1 => g_fr D A 6 2 200 h r [] H1 ∧ x_but2 h r H0 H1)) 0 0 (fun q : Nat => q = h ∨ q = r) := by
  refine Met.ofW (cc := prog_4_method_5_code) (maxL := 1) (ret := none) (by decide) rfl ?_
  intro p e s m args below meth c s₁ B hml hv
  obtain ⟨rfl, hH, hK, hN⟩ := hv
  obtain ⟨hx, hb, hr, htb, hown, hlocks⟩ := x_start (wd := Cond.code y_Jo_clear prog_4_method_5_code 1 none) B
  have hl := lv_entry ([.ref h]) (n := 1) (Nat.le_of_ble_eq_true rfl)
  rw [lg_entry_eq]
  generalize (lg_sl ([.ref h]) ++ List.replicate (1 - (lg_sl ([.ref h])).length) Slot.unset).toArray = ls at hl ⊢
  have hl : lv_has ls 1 [(0, .ref h)] := hl
  rw [hH]
  obtain ⟨g, h1, h2, h3, h4⟩ := hf
  have hL : ∀ q ∈ ([] : List Loc), (fun q : Nat => q = h ∨ q = r) q.base := fun q hq => by cases hq
  refine lv_aload_n hx hb d_Jo_clear_0 rfl (lv_at hl 0 rfl) ?_
  refine lv_iconst (v := 0) hx hb d_Jo_clear_1 (by decide) ?_
  refine x_put (F := fun q : Nat => q = h ∨ q = r) (ci := 6) (v := .int 0) (ty := .int) (T := T_Jo) hx hb htb u_Jo t_Jo t_Jo_ok n_Jo hown hK h1 hL (Or.inl rfl) rfl 1 (by decide) (htb _ mw_68) (fun _ h9 => h9) rfl (by decide +kernel) rfl rfl (Nat.le_of_ble_eq_true rfl) d_Jo_clear_2 (fun H1 locs q1 hc1 hL => ?_)
  have q1 : va_at D x_cl (h, .inr (6, [.ref r, .int 0])) H1 := q1
  exact x_vret hx hb hr hlocks ⟨⟨g, q1, hc1.at h2 n1.symm, fun j a q => by simp at q, Nat.zero_le _⟩, x_but2.l hc1⟩ hL (Nat.le_refl _) (Nat.le_refl _) d_Jo_clear_5
set_option maxHeartbeats 4000000 in
set_option maxRecDepth 100000 in
theorem c_Jo_append (l : Launch) {D : va_G} {A : Nat → ClassId} {H0 : Heap} {M : Nat → Prop} {h r b : Nat} {as : List Nat} {o : g_O} (hf : g_fr D A 6 2 200 h r as H0) (hn : g_op D A M b o H0) (n1 : h ≠ r) (hlt : as.length < 200) : Met l y_Jo_append w_Jo_append { frames := 0, cells := 0, slots := 0, locals := 0 } (x_Pc D A [.ref h, .ref b] H0) (x_Q none (fun H1 => g_fr D A 6 2 200 h r (as ++ [b]) H1 ∧ x_but2 h r H0 H1)) 0 0 (fun q : Nat => q = h ∨ q = r) := by
  refine Met.ofW (cc := prog_4_method_3_code) (maxL := 2) (ret := none) (by decide) rfl ?_
  intro p e s m args below meth c s₁ B hml hv
  obtain ⟨rfl, hH, hK, hN⟩ := hv
  obtain ⟨hx, hb, hr, htb, hown, hlocks⟩ := x_start (wd := Cond.code y_Jo_append prog_4_method_3_code 2 none) B
  have hl := lv_entry ([.ref h, .ref b]) (n := 2) (Nat.le_of_ble_eq_true rfl)
  rw [lg_entry_eq]
  generalize (lg_sl ([.ref h, .ref b]) ++ List.replicate (2 - (lg_sl ([.ref h, .ref b])).length) Slot.unset).toArray = ls at hl ⊢
  have hl : lv_has ls 2 [(0, .ref h), (1, .ref b)] := hl
  rw [hH]
  obtain ⟨g, h1, h2, h3, h4⟩ := hf
  obtain ⟨nb, vb, b1, b2, b3, b4⟩ := hn
  have hL : ∀ q ∈ ([] : List Loc), (fun q : Nat => q = h ∨ q = r) q.base := fun q hq => by cases hq
  refine lv_aload_n hx hb d_Jo_append_0 rfl (lv_at hl 0 rfl) ?_
  refine x_get (ci := 6) (T := T_Jo) hx hb htb u_Jo hown hK h1 rfl 1 (by decide) (htb _ mw_68) (fun _ h9 => h9) (v := .int (nI as.length)) rfl d_Jo_append_1 ?_
  refine lv_aload_n hx hb d_Jo_append_4 rfl (lv_at hl 0 rfl) ?_
  refine x_get (ci := 6) (T := T_Jo) hx hb htb u_Jo hown hK h1 rfl 0 (by decide) (htb _ mw_67) (fun _ h9 => h9) (v := .ref r) rfl d_Jo_append_5 ?_
  refine x_alen hx hb hK 2 h2 rfl (v := nI 200) rfl d_Jo_append_8 ?_
  refine lv_icmp_ge (tgt := 32) hx hb d_Jo_append_9 (by decide) (fun c9 => absurd c9 (nI_ge hlt (by omega))) (fun _ => ?_)
  refine lv_aload_n hx hb d_Jo_append_12 rfl (lv_at hl 0 rfl) ?_
  refine x_get (ci := 6) (T := T_Jo) hx hb htb u_Jo hown hK h1 rfl 0 (by decide) (htb _ mw_67) (fun _ h9 => h9) (v := .ref r) rfl d_Jo_append_13 ?_
  refine lv_aload_n hx hb d_Jo_append_16 rfl (lv_at hl 0 rfl) ?_
  refine x_get (ci := 6) (T := T_Jo) hx hb htb u_Jo hown hK h1 rfl 1 (by decide) (htb _ mw_68) (fun _ h9 => h9) (v := .int (nI as.length)) rfl d_Jo_append_17 ?_
  refine lv_aload_n hx hb d_Jo_append_20 rfl (lv_at hl 1 rfl) ?_
  refine x_astq (F := fun q : Nat => q = h ∨ q = r) hx hb hK 2 3 h2 hL (Or.inr rfl) rfl b1 rfl (vp_in_nI (by omega) (by omega)) d_Jo_append_21 (fun H3 locs p2 hm3 hL => ?_)
  have p1 := hm3.at h1 n1
  refine lv_aload_n hx hb d_Jo_append_22 rfl (lv_at hl 0 rfl) ?_
  refine lv_dup hx hb d_Jo_append_23 rfl ?_
  refine x_get (ci := 6) (T := T_Jo) hx hb htb u_Jo hown hK p1 rfl 1 (by decide) (htb _ mw_68) (fun _ h9 => h9) (v := .int (nI as.length)) rfl d_Jo_append_24 ?_
  refine lv_iconst (v := 1) hx hb d_Jo_append_27 (by decide) ?_
  refine lv_iadd hx hb d_Jo_append_28 ?_
  refine x_top (y := nI (as.length + 1)) (nI_1 _) ?_
  refine x_put (F := fun q : Nat => q = h ∨ q = r) (ci := 6) (v := .int (nI (as.length + 1))) (ty := .int) (T := T_Jo) hx hb htb u_Jo t_Jo t_Jo_ok n_Jo hown hK p1 hL (Or.inl rfl) rfl 1 (by decide) (htb _ mw_68) (fun _ h9 => h9) rfl (by decide +kernel) rfl rfl (Nat.le_of_ble_eq_true rfl) d_Jo_append_29 (fun H4 locs p5 hc2 hL => ?_)
  have p5 : va_at D x_cl (h, .inr (6, [.ref r, .int (nI (as.length + 1))])) H4 := p5
  have el : (as ++ [b]).length = as.length + 1 := by rw [List.length_append]; rfl
  refine x_vret hx hb hr hlocks ⟨⟨_, by rw [el]; exact p5, hc2.at p2 n1.symm, fun j a q => ?_, by rw [el]; omega⟩, (x_but2.r hm3).trans (x_but2.l hc2)⟩ hL (Nat.le_refl _) (Nat.le_refl _) d_Jo_append_32
  show va_up g (nI as.length).toNatClampNeg (some b) j = some a
  rw [nI_clamp (by omega)]
  rcases Nat.lt_trichotomy j as.length with w | w | w
  · rw [va_up_ne _ _ (by omega)]; rw [List.getElem?_append_left w] at q; exact h3 j a q
  · subst w; rw [va_up_self]; rw [List.getElem?_append_right (Nat.le_refl _), Nat.sub_self] at q; exact q
  · rw [List.getElem?_eq_none (by rw [List.length_append]; show _ + 1 ≤ j; omega)] at q; cases q
def g_rep (fs : List g_F) : List g_O → List g_F
  | [] => fs
  | o :: os => g_rep (g_ap fs o) os
theorem g_rep_app (fs : List g_F) (os : List g_O) (o : g_O) : g_rep fs (os ++ [o]) = g_ap (g_rep fs os) o := by
  induction os generalizing fs with
  | nil => rfl
  | cons a os ih => exact ih (g_ap fs a)
set_option maxHeartbeats 4000000 in
set_option maxRecDepth 100000 in
theorem c_Jo_replayFirst (l : Launch) {D : va_G} {A : Nat → ClassId} {H0 : Heap} {M : Nat → Prop} {h r j t k : Nat} {as bs : List Nat} {fs : List g_F} {os : List g_O} (hj : g_fr D A 6 2 200 j t bs H0) (ho : g_os D A M bs os H0) (hf : g_fr D A 5 1 60 h r as H0) (hs : g_fs D A M as fs H0) (hM1 : M h) (hM2 : M r) (n1 : h ≠ r) (n2 : j ≠ h) (n3 : j ≠ r) (n4 : t ≠ h) (n5 : t ≠ r) (hk : k ≤ bs.length) : Met l y_Jo_replayFirst w_Jo_replayFirst { frames := 5, cells := 0, slots := 0, locals := 111 } (x_Pc D A [.ref j, .int (nI k), .ref h] H0) (x_Q none (fun H1 => ∃ bs : List Nat, g_fr D A 5 1 60 h r bs H1 ∧ g_fs D A M bs (g_rep fs (os.take k)) H1 ∧ x_but2 h r H0 H1)) 0 0 (fun q : Nat => q = h ∨ q = r) := by
  refine Met.ofW (cc := prog_4_method_4_code) (maxL := 5) (ret := none) (by decide) rfl ?_
  intro p e s m args below meth c s₁ B hml hv
  obtain ⟨rfl, hH, hK, hN⟩ := hv
  obtain ⟨hx, hb, hr, htb, hown, hlocks⟩ := x_start (wd := Cond.code y_Jo_replayFirst prog_4_method_4_code 5 none) B
  have hl := lv_entry ([.ref j, .int (nI k), .ref h]) (n := 5) (Nat.le_of_ble_eq_true rfl)
  rw [lg_entry_eq]
  generalize (lg_sl ([.ref j, .int (nI k), .ref h]) ++ List.replicate (5 - (lg_sl ([.ref j, .int (nI k), .ref h])).length) Slot.unset).toArray = ls at hl ⊢
  have hl : lv_has ls 5 [(0, .ref j), (1, .int (nI k)), (2, .ref h)] := hl
  rw [hH]
  obtain ⟨g, h1, h2, h3, h4⟩ := hj
  have hL : ∀ q ∈ ([] : List Loc), (fun q : Nat => q = h ∨ q = r) q.base := fun q hq => by cases hq
  refine lv_iload_n hx hb d_Jo_replayFirst_0 rfl (lv_at hl 1 rfl) ?_
  refine lv_aload_n hx hb d_Jo_replayFirst_1 rfl (lv_at hl 0 rfl) ?_
  refine x_get (ci := 6) (T := T_Jo) hx hb htb u_Jo hown hK h1 rfl 1 (by decide) (htb _ mw_68) (fun _ h9 => h9) (v := .int (nI bs.length)) rfl d_Jo_replayFirst_2 ?_
  refine va_mmin hx hb (by rw [hml]; exact hl.1.symm) hown (htb _ mw_451) (htb _ mw_304) (htb _ mw_12) (show (Cond.code Lib.Math.min.name Lib.Math.min.code 2 (some .int)).before _ s = true from htb _ mw_305) (Nat.le_of_ble_eq_true rfl) (Nat.le_of_ble_eq_true rfl) (Nat.le_of_ble_eq_true rfl) (Nat.le_of_ble_eq_true rfl) d_Jo_replayFirst_5 ?_
  refine x_top (y := nI k) (if_neg (nI_nlt hk (by omega))) ?_
  refine lv_istore_n (lv' := [(3, .int (nI k)), (0, .ref j), (1, .int (nI k)), (2, .ref h)]) hx hb d_Jo_replayFirst_8 rfl hl (by decide) rfl (fun ls hl => ?_)
  refine lv_iconst (v := 0) hx hb d_Jo_replayFirst_9 (by decide) ?_
  refine lv_istore (lv' := [(4, .int 0), (3, .int (nI k)), (0, .ref j), (1, .int (nI k)), (2, .ref h)]) hx hb d_Jo_replayFirst_10 hl (by decide) rfl (fun ls hl => ?_)
  refine x_loop (σ := Nat × Heap × List Loc × Array Slot) (fun z => F0 m 12 z.2.2.2 []) (fun z => z.2.1) (fun z => z.2.2.1) (fun z => z.1 ≤ k ∧ (∃ cs : List Nat, g_fr D A 5 1 60 h r cs z.2.1 ∧ g_fs D A M cs (g_rep fs (os.take z.1)) z.2.1) ∧ x_but2 h r H0 z.2.1 ∧ (∀ q ∈ z.2.2.1, (fun q : Nat => q = h ∨ q = r) q.base) ∧ lv_has z.2.2.2 5 [(4, .int (nI z.1)), (3, .int (nI k)), (0, .ref j), (2, .ref h)]) (fun z => k - z.1) (s0 := (0, H0, [], ls)) ⟨Nat.zero_le _, ⟨as, hf, hs⟩, x_but2.refl, hL, (lv_sub hl [0, 1, 2, 4] rfl)⟩ ?_
  rintro ⟨i, H, locs, ls⟩ ⟨hi, ⟨cs, hf1, hs1⟩, hb2, hL, hl⟩ ih
  dsimp only at hi hf1 hs1 hb2 hL hl ih ⊢
  have p1 := hb2.at h1 n2 n3
  have p2 := hb2.at h2 n4 n5
  refine lv_iload hx hb d_Jo_replayFirst_12 (lv_at hl 0 rfl) ?_
  refine lv_iload_n hx hb d_Jo_replayFirst_14 rfl (lv_at hl 1 rfl) ?_
  refine lv_icmp_ge (tgt := 35) hx hb d_Jo_replayFirst_15 (by decide) (fun c1 => ?_) (fun c1 => ?_)
  · have e : i = k := Nat.le_antisymm hi (Nat.le_of_not_lt fun q => absurd c1 (nI_ge q (by omega)))
    subst e
    exact x_vret hx hb hr hlocks ⟨cs, hf1, hs1, hb2⟩ hL (Nat.le_refl _) (Nat.le_refl _) d_Jo_replayFirst_35
  · have hlt : i < k := Nat.lt_of_not_le fun q => absurd (nI_le q (by omega)) c1
    obtain ⟨a, ha⟩ := g_ex (as := bs) (j := i) (by omega)
    obtain ⟨o, hoo⟩ := g_ex (as := os) (j := i) (by rw [← ho.1]; omega)
    have f1 := (ho.2 i a o ha hoo).kept (hb2.K hM1 hM2)
    obtain ⟨g5, h5, -⟩ := id hf1
    refine lv_aload_n hx hb d_Jo_replayFirst_18 rfl (lv_at hl 3 rfl) ?_
    refine lv_aload_n hx hb d_Jo_replayFirst_19 rfl (lv_at hl 2 rfl) ?_
    refine x_get (ci := 6) (T := T_Jo) hx hb htb u_Jo hown hK p1 rfl 0 (by decide) (htb _ mw_67) (fun _ h9 => h9) (v := .ref t) rfl d_Jo_replayFirst_20 ?_
    refine lv_iload hx hb d_Jo_replayFirst_23 (lv_at hl 0 rfl) ?_
    refine x_aldq hx hb hK 2 p2 rfl (vp_in_nI (by omega) (by omega)) (r := .ref a) (by rw [nI_clamp (by omega), h3 i a ha]; rfl) d_Jo_replayFirst_25 ?_
    refine x_call (F := fun q : Nat => q = h ∨ q = r) (va_runV (As := [.ref a]) (rest := []) ⟨hx, hb, hml, hown, htb⟩ (c_Fi_apply l hf1 hs1 f1 hM1 hM2 n1) (x_cV 1 htb mw_452 mw_3 mw_405 mw_403 mw_404 rfl rfl (by decide +kernel) ⟨Nat.le_of_ble_eq_true rfl, Nat.le_of_ble_eq_true rfl⟩) (x_preV hK hN h5 rfl) rfl rfl hl.1 rfl (lv_room (Nat.le_of_ble_eq_true rfl)) d_Jo_replayFirst_26 ⟨Nat.le_of_ble_eq_true rfl, Nat.le_of_ble_eq_true rfl⟩) hL (fun q hq => hq) (fun H3 locs hP hL => ?_)
    refine W.eq (g2 := F0 m 29 ls []) rfl ?_
    obtain ⟨ds, hf3, hs3, hb3⟩ := hP
    refine lv_iinc (v := nI (i + 1)) (lv' := [(4, .int (nI (i + 1))), (3, .int (nI k)), (0, .ref j), (2, .ref h)]) hx hb d_Jo_replayFirst_29 hl (k := 0) rfl (nI_1 i) (by decide) rfl (fun ls hl => ?_)
    refine lv_goto (tgt := 12) hx hb d_Jo_replayFirst_32 (by decide) ?_
    exact ih (i + 1, H3, locs, ls) ⟨hlt, ⟨ds, hf3, by show g_fs D A M ds (g_rep fs (os.take (i + 1))) H3; rw [g_take hoo, g_rep_app]; exact hs3⟩, hb2.trans hb3, hL, (lv_sub hl [0, 1, 2, 3] rfl)⟩ (by show k - (i + 1) < k - i; omega)
end
section
/-! TAPE: bytes that come and go -/
/-- what a method may write: the places M, and what it makes -/
def x_fr (M : Nat → Prop) (H0 : Heap) : Nat → Prop := fun q => M q ∨ H0.size ≤ q
/-- an answer that is a reference -/
def x_Qr (P : Nat → Heap → Prop) : Array Value → State → Outcome → State → Prop := fun _ _ oc t => ∃ q : Nat, oc = .returned (some (.ref q)) ∧ P q t.heap
section XR
variable {p : Program} {l : Launch} {e : Env} {R : Room} {s : State} {m : MethodId} {args : Array Value} {below : List Frame} {meth : Method} {c : Code} {H : Heap} {locs : List Loc} {cells slots : Nat} {Q : State → Prop}
variable {cc : ByteArray} {pc : Nat} {ls : Array Slot} {rest : List Value} {F : Nat → Prop}
theorem x_callr {st0 : List Value} {av : Array Value} {mc ms : Nat} {free : Addr → Prop} {P : Nat → Heap → Prop} (hr : va_Run p l e R s m args below meth c H locs cells slots mc ms (F0 m pc ls st0) rest (x_Qr P av) free) (hL : ∀ q ∈ locs, F q.base) (hf : ∀ q, free q → F q)
    (kk : ∀ (q : Nat) (H1 : Heap) (locs1 : List Loc), P q H1 → (∀ q ∈ locs1, F q.base) → W p l e R s m args below meth c H1 locs1 (cells + mc) (slots + ms) Q (F0 m (pc + 3) ls (.ref q :: rest))) : W p l e R s m args below meth c H locs cells slots Q (F0 m pc ls st0) := by
  intro T hT X
  obtain ⟨v', st₀, t, T', L, h0, X', hL', e1, e2, ⟨q, hv, hP⟩, st⟩ := hr T hT X
  cases hv
  obtain ⟨t2, a1, b1⟩ := kk q T'.heap (locs ++ L) (by rw [e1]; exact hP) (fun q hq => by
      rcases List.mem_append.mp hq with h | h
      · exact hL q h
      · exact hf _ (hL' q h)) T' rfl X'
  exact ⟨t2, st t2 a1, b1⟩
theorem x_aretr {mc ms : Nat} {free : Addr → Prop} {q : Nat} {rt : FieldType} {P : Nat → Heap → Prop} (hexec : p.tables.exec = Jvm.exec) (hb : c.code = cc) (hr : meth.sig.returnType = some rt) (hrt : (∃ n, rt = .object n) ∨ ∃ t, rt = .array t) (hlocks : meth.locks = false) (hP : P q H) (hL : ∀ q ∈ locs, free q.base) (hc : cells ≤ mc) (hs : slots ≤ ms) (hdg : decode cc pc = .ok (.areturn, 1)) : W p l e R s m args below meth c H locs cells slots (MQ below (x_Qr P) args s mc ms free) (F0 m pc ls [.ref q]) :=
  W.widen hc hs (W.aret hexec hb hr hrt (Or.inr ⟨q, rfl⟩) (fun t ht _ => ⟨q, rfl, by rw [ht]; exact hP⟩) hL hdg hlocks)
end XR
theorem g_arr {cA : ClassId} {n : Nat} {f g : Nat → Int32} (h : ∀ j, j < n → f j = g j) : vp_cell cA (n, .inl f) = vp_cell cA (n, .inl g) := by
  rw [vp_cell_i, vp_cell_i]
  unfold arrV
  congr 1
  exact congrArg Array.ofFn (funext fun j => congrArg Value.int (h j.val j.isLt))
/-- the tape: an object with a row of 400 bytes, the first of which are us -/
def g_tp (D : va_G) (A : Nat → ClassId) (t r : Nat) (us : List Nat) (H : Heap) : Prop :=
  ∃ f : Nat → Int32, va_at D x_cl (t, .inr (4, [.ref r, .int (nI us.length)])) H ∧ va_at D x_cl (r, .inl (A 0, 400, .inl f)) H ∧ (∀ j, j < us.length → f j = sb_b (us.getD j 0)) ∧ sb_Fit f ∧ us.length ≤ 400 ∧ ∀ u ∈ us, u < 256
theorem df_By : ∀ j, j < 1 → defaultValue (t_By j) = vp_V [.null] j := by
  intro j hj
  match j, hj with
  | 0, _ => rfl
  | j + 1, hj => exact absurd hj (by omega)
theorem df_Nm : ∀ j, j < 3 → defaultValue (t_Nm j) = vp_V [.int 0, .int 0, .null] j := by
  intro j hj
  match j, hj with
  | 0, _ => rfl
  | 1, _ => rfl
  | 2, _ => rfl
  | j + 3, hj => exact absurd hj (by omega)
theorem df_Sf : ∀ j, j < 2 → defaultValue (t_Sf j) = vp_V [.null, .null] j := by
  intro j hj
  match j, hj with
  | 0, _ => rfl
  | 1, _ => rfl
  | j + 2, hj => exact absurd hj (by omega)
theorem df_Op : ∀ j, j < 2 → defaultValue (t_Op j) = vp_V [.null, .null] j := by
  intro j hj
  match j, hj with
  | 0, _ => rfl
  | 1, _ => rfl
  | j + 2, hj => exact absurd hj (by omega)
theorem df_Tp : ∀ j, j < 2 → defaultValue (t_Tp j) = vp_V [.null, .int 0] j := by
  intro j hj
  match j, hj with
  | 0, _ => rfl
  | 1, _ => rfl
  | j + 2, hj => exact absurd hj (by omega)
theorem df_Fi : ∀ j, j < 2 → defaultValue (t_Fi j) = vp_V [.null, .int 0] j := by
  intro j hj
  match j, hj with
  | 0, _ => rfl
  | 1, _ => rfl
  | j + 2, hj => exact absurd hj (by omega)
theorem df_Jo : ∀ j, j < 2 → defaultValue (t_Jo j) = vp_V [.null, .int 0] j := by
  intro j hj
  match j, hj with
  | 0, _ => rfl
  | 1, _ => rfl
  | j + 2, hj => exact absurd hj (by omega)
theorem df_Bd : ∀ j, j < 7 → defaultValue (t_Bd j) = vp_V [.null, .null, .null, .null, .null, .null, .int 0] j := by
  intro j hj
  match j, hj with
  | 0, _ => rfl
  | 1, _ => rfl
  | 2, _ => rfl
  | 3, _ => rfl
  | 4, _ => rfl
  | 5, _ => rfl
  | 6, _ => rfl
  | j + 7, hj => exact absurd hj (by omega)
theorem df_Mo : ∀ j, j < 23 → defaultValue (t_Mo j) = vp_V [.int 0, .null, .null, .int 0, .int 0, .null, .null, .null, .null, .null, .null, .int 0, .int 0, .int 0, .int 0, .null, .null, .null, .int 0, .null, .null, .null, .null] j := by
  intro j hj
  match j, hj with
  | 0, _ => rfl
  | 1, _ => rfl
  | 2, _ => rfl
  | 3, _ => rfl
  | 4, _ => rfl
  | 5, _ => rfl
  | 6, _ => rfl
  | 7, _ => rfl
  | 8, _ => rfl
  | 9, _ => rfl
  | 10, _ => rfl
  | 11, _ => rfl
  | 12, _ => rfl
  | 13, _ => rfl
  | 14, _ => rfl
  | 15, _ => rfl
  | 16, _ => rfl
  | 17, _ => rfl
  | 18, _ => rfl
  | 19, _ => rfl
  | 20, _ => rfl
  | 21, _ => rfl
  | 22, _ => rfl
  | j + 23, hj => exact absurd hj (by omega)
theorem x_min {k n : Nat} (hk : k ≤ n) (hn : n < 2 ^ 31) : (if nI k < nI n then nI k else nI n) = nI k := by
  by_cases q : nI k < nI n
  · rw [if_pos q]
  · rw [if_neg q]
    exact congrArg nI (Nat.le_antisymm (Nat.le_of_not_lt fun w => q (nI_lt w (by omega))) hk)
set_option maxHeartbeats 4000000 in
set_option maxRecDepth 100000 in
theorem c_Ar_copyOf (l : Launch) {D : va_G} {A : Nat → ClassId} {H0 : Heap} {a n k : Nat} {f : Nat → Int32} (h : va_at D x_cl (a, .inl (A 0, n, .inl f)) H0) (hfit : sb_Fit f) (hn : n ≤ 400) (hk : k ≤ n) : Met l y_Ar_copyOf w_Ar_copyOf { frames := 1, cells := 1, slots := 400, locals := 60 } (x_Pc D A [.ref a, .int (nI k)] H0) (x_Qr (fun q H1 => H0.size ≤ q ∧ va_at D x_cl (q, .inl (A 0, k, .inl f)) H1 ∧ H0.size ≤ H1.size ∧ ∀ q : Nat, q < H0.size → H1[q]? = H0[q]?)) 1 400 (fun q : Nat => q = a ∨ H0.size ≤ q) := by
  refine Met.ofW (cc := prog_22_method_121_code) (maxL := 3) (ret := (some (.array .byte))) (by decide) rfl ?_
  intro p e s m args below meth c s₁ B hml hv
  obtain ⟨rfl, hH, hK, hN⟩ := hv
  obtain ⟨hx, hb, hr, htb, hown, hlocks⟩ := x_start (wd := Cond.code y_Ar_copyOf prog_22_method_121_code 3 (some (.array .byte))) B
  have hl := lv_entry ([.ref a, .int (nI k)]) (n := 3) (Nat.le_of_ble_eq_true rfl)
  rw [lg_entry_eq]
  generalize (lg_sl ([.ref a, .int (nI k)]) ++ List.replicate (3 - (lg_sl ([.ref a, .int (nI k)])).length) Slot.unset).toArray = ls at hl ⊢
  have hl : lv_has ls 3 [(0, .ref a), (1, .int (nI k))] := hl
  rw [hH]
  have hnm : s.vm.findClass "[B" = some (A 0) := (hK.2 0 _ rfl).2
  have ha : a < H0.size := h.lt
  have hA : ∀ q, H0.size ≤ q → (fun q : Nat => q = a ∨ H0.size ≤ q) q := fun q hq => Or.inr hq
  have hD : va_D (fun q : Nat => q = a ∨ H0.size ≤ q) [(a, .inl (A 0, n, .inl f))] := ⟨fun i j p q h1 h2 _ => by
      have := (List.getElem?_eq_some_iff.mp h1).1
      have := (List.getElem?_eq_some_iff.mp h2).1
      simp at *; omega, fun k q hq => by
      match k, hq with
      | 0, hq => cases hq; exact Or.inl rfl
      | k + 1, hq => simp at hq⟩
  have hS : va_S (fun q : Nat => q = a ∨ H0.size ≤ q) H0 H0 [] := va_S.rf
  refine lv_iload_n hx hb d_Ar_copyOf_0 rfl (lv_at hl 1 rfl) ?_
  refine lv_aload_n hx hb d_Ar_copyOf_1 rfl (lv_at hl 0 rfl) ?_
  refine x_alen hx hb hK 0 h rfl (v := nI n) rfl d_Ar_copyOf_2 ?_
  refine lv_icmp_ne (tgt := 14) hx hb d_Ar_copyOf_3 (by decide) (fun c1 => ?_) (fun c1 => ?_)
  · refine lv_iload_n hx hb d_Ar_copyOf_14 rfl (lv_at hl 1 rfl) ?_
    refine x_newa (atype := .byte) hx hb (htb _ mw_42) (ty := .byte) rfl hK 0 rfl (fun C q => by cases q) (N' := k) (a0 := (k, .inl (fun _ => 0))) rfl (nI_pos (by omega)) (nI_clamp (by omega)) (by show k * 1 ≤ _; omega) (Nat.le_of_ble_eq_true rfl) (by show 0 + k ≤ 400; omega) d_Ar_copyOf_15 (fun H1 hn1 hz1 ho1 => ?_)
    refine lv_astore_n (lv' := [(2, .ref H0.size), (0, .ref a), (1, .int (nI k))]) hx hb d_Ar_copyOf_17 rfl hl (by decide) rfl (fun ls hl => ?_)
    refine lv_aload_n hx hb d_Ar_copyOf_18 rfl (lv_at hl 1 rfl) ?_
    refine lv_iconst (v := 0) hx hb d_Ar_copyOf_19 (by decide) ?_
    refine lv_aload_n hx hb d_Ar_copyOf_20 rfl (lv_at hl 0 rfl) ?_
    refine lv_iconst (v := 0) hx hb d_Ar_copyOf_21 (by decide) ?_
    refine lv_aload_n hx hb d_Ar_copyOf_22 rfl (lv_at hl 1 rfl) ?_
    have h1 : va_at D x_cl (a, .inl (A 0, n, .inl f)) H1 := h.kept (ho1 a ha)
    refine x_alen hx hb hK 0 h1 rfl (v := nI n) rfl d_Ar_copyOf_23 ?_
    refine lv_iload_n hx hb d_Ar_copyOf_24 rfl (lv_at hl 2 rfl) ?_
    refine va_mmin hx hb (by rw [hml]; exact hl.1.symm) hown (htb _ mw_303) (htb _ mw_304) (htb _ mw_12) (show (Cond.code Lib.Math.min.name Lib.Math.min.code 2 (some .int)).before _ s = true from htb _ mw_305) (Nat.le_of_ble_eq_true rfl) (Nat.le_of_ble_eq_true rfl) (Nat.le_of_ble_eq_true rfl) (by show 0 + k ≤ 400; omega) d_Ar_copyOf_25 ?_
    refine x_top (y := nI k) (x_min hk (by omega)) ?_
    have hD1 : va_D (fun q : Nat => q = a ∨ H0.size ≤ q) [(a, .inl (A 0, n, .inl f)), (H0.size, .inl (A 0, k, .inl (fun _ => 0)))] := hD.push (x_P1 h) rfl (Or.inr (Nat.le_refl _))
    have hP1 : va_P D x_cl [(a, .inl (A 0, n, .inl f)), (H0.size, .inl (A 0, k, .inl (fun _ => 0)))] H1 := va_P.app (x_P1 h1) (x_P1 hn1)
    have hS1 : va_S (fun q : Nat => q = a ∨ H0.size ≤ q) H0 H1 [] := ⟨by omega, fun q hq _ => ho1 q hq, fun q hq => by cases hq⟩
    refine va_copyi hx hb (by rw [hml]; exact hl.1.symm) hown (htb _ mw_306) (htb _ mw_308) (htb _ mw_307) (htb _ mw_13) hK hP1 hD1 hS1 0 1 0 0 rfl rfl rfl rfl rfl (by decide) (by decide) (nI_pos (by omega)) (by rw [nI_clamp (by omega)]; show 0 + k ≤ n; omega) (by rw [nI_clamp (by omega)]; show 0 + k ≤ k; omega) (fun i _ => hfit _) (Nat.le_of_ble_eq_true rfl) (Nat.le_of_ble_eq_true rfl) d_Ar_copyOf_28 (fun H2 locs hP2 hD2 hS2 => ?_)
    refine lv_aload_n hx hb d_Ar_copyOf_31 rfl (lv_at hl 0 rfl) ?_
    have e1 : va_at D x_cl (a, .inl (A 0, n, .inl f)) H2 := hP2 0 _ rfl
    have e2 := hP2 1 _ rfl
    refine x_aretr hx hb hr (Or.inr ⟨_, rfl⟩) hlocks ⟨Nat.le_refl _, ?_, hS2.1, fun q hq => ?_⟩ hS2.2.2 (Nat.le_refl _) (by show 0 + k ≤ 400; omega) d_Ar_copyOf_32
    · have e3 : H2[H0.size]? = some (vp_cell (A 0) (k, .inl (va_cpy f (fun _ => 0) (0 : Int32).toNatClampNeg (0 : Int32).toNatClampNeg (nI k).toNatClampNeg))) := e2
      show H2[H0.size]? = some (vp_cell (A 0) (k, .inl f))
      rw [e3, nI_clamp (by omega)]
      exact congrArg some (g_arr fun j hj => sb_cpy0 hj)
    · by_cases hqa : q = a
      · rw [hqa]; exact (show H2[a]? = some _ from e1).trans (show H0[a]? = some _ from h).symm
      · exact hS2.2.1 q hq (fun w => w.elim hqa (fun w => absurd hq (by omega)))
  · have e : k = n := (nI_eq (by omega) (by omega)).mp c1
    subst e
    refine lv_aload_n hx hb d_Ar_copyOf_6 rfl (lv_at hl 0 rfl) ?_
    refine va_clone (ad := "[B") hx hb (by rw [hml]; exact hl.1.symm) hown (htb _ mw_296) (htb _ mw_297) (htb _ mw_298) (htb _ mw_299) (htb _ mw_300) (hN.1 _ nf_301) hK (x_P1 h) hD hS hA 0 0 rfl rfl hnm (fun i v hv => ?_) (Nat.le_of_ble_eq_true rfl) (Nat.le_of_ble_eq_true rfl) (Nat.le_of_ble_eq_true rfl) (by show 0 + k ≤ 400; omega) d_Ar_copyOf_7 (fun q H1 hK1 hP1 hD1 hS1 => ?_)
    · have hi : i < k := by
        have := (Array.getElem?_eq_some_iff.mp hv).1
        rwa [show (vp_cell (A 0) (k, .inl f)).slots.size = k from arrV_size _ _ _] at this
      have hv2 : (arrV (A 0) k (fun j => .int (f j))).slots[i]? = some v := hv
      rw [arrV_read _ _ hi] at hv2
      cases hv2
      exact hfit i
    refine va_castA hx hb hown (htb _ mw_302) hP1 1 rfl hnm d_Ar_copyOf_10 ?_
    have hq : H0.size ≤ q := (hD1.2 1 _ rfl).resolve_left (fun w => absurd (hD1.1 1 0 _ _ rfl rfl w) (by decide))
    refine x_aretr hx hb hr (Or.inr ⟨_, rfl⟩) hlocks ⟨hq, hP1 1 _ rfl, hS1.1, fun q2 hq2 => ?_⟩ (fun q hq => by cases hq) (Nat.le_refl _) (by show 0 + k ≤ 400; omega) d_Ar_copyOf_13
    by_cases hqa : q2 = a
    · rw [hqa]; exact (show H1[a]? = some _ from hP1 0 _ rfl).trans (show H0[a]? = some _ from h).symm
    · exact hS1.2.1 q2 hq2 (fun w => w.elim hqa (fun w => absurd hq2 (by omega)))
end
section
/-- byte k of a long -/
def g_by (v : Int64) (k : Nat) : Nat := v.toBitVec.toNat / 2 ^ (8 * k) % 256
def g_puts (v : Int64) (n i : Nat) : List Nat := (List.range (n - i)).map (fun d => g_by v (n - 1 - d))
theorem g_by_lt (v : Int64) (k : Nat) : g_by v k < 256 := Nat.mod_lt _ (by decide)
theorem g_puts_0 (v : Int64) (n : Nat) : g_puts v n n = [] := by unfold g_puts; rw [Nat.sub_self]; rfl
theorem g_puts_step {v : Int64} {n j : Nat} (h : j < n) : g_puts v n j = g_puts v n (j + 1) ++ [g_by v j] := by
  unfold g_puts
  have e : n - j = (n - (j + 1)) + 1 := by omega
  rw [e, List.range_succ, List.map_append]
  congr 1
  show [g_by v (n - 1 - (n - (j + 1)))] = [g_by v j]
  congr 2
  omega
theorem g_puts_len {v : Int64} {n j : Nat} : (g_puts v n j).length = n - j := by unfold g_puts; rw [List.length_map, List.length_range]
theorem g_puts_lt {v : Int64} {n j : Nat} : ∀ u ∈ g_puts v n j, u < 256 := fun u hu => by
  obtain ⟨d, -, rfl⟩ := List.mem_map.mp hu
  exact g_by_lt _ _
theorem g_b8 (y : Int64) : y.toInt32.toInt8.toInt32 = sb_b (y.toBitVec.toNat % 256) := by
  unfold sb_b
  have h : y.toInt32.toInt8 = (nI (y.toBitVec.toNat % 256)).toInt8 := by
    apply Int8.toBitVec_inj.mp
    rw [Int32.toBitVec_toInt8, Int32.toBitVec_toInt8, Int64.toBitVec_toInt32]
    apply BitVec.eq_of_toNat_eq
    have e1 : (nI (y.toBitVec.toNat % 256)).toBitVec = BitVec.ofNat 32 (y.toBitVec.toNat % 256) := rfl
    rw [e1]
    rw [BitVec.signExtend_eq_setWidth_of_le _ (by decide), BitVec.signExtend_eq_setWidth_of_le _ (by decide), BitVec.signExtend_eq_setWidth_of_le _ (by decide)]
    simp only [BitVec.toNat_setWidth, BitVec.toNat_ofNat]
    omega
  rw [h]
theorem g_s8 : ∀ k, k < 8 → ((nI (8 * k)).toInt64.toUInt64 &&& Int64.toUInt64 63) = UInt64.ofNat (8 * k) := by decide +kernel
theorem g_s8i : ∀ k, k < 8 → ((nI (8 * k)).toInt64 &&& 63) = Int64.ofNat (8 * k) := by decide +kernel
theorem g_ushr (v : Int64) {k : Nat} (hk : k < 8) : (v.toUInt64 >>> ((nI (8 * k)).toInt64.toUInt64 &&& Int64.toUInt64 63)).toInt64.toInt32.toInt8.toInt32 = sb_b (g_by v k) := by
  rw [g_b8, g_s8 k hk]
  congr 1
  unfold g_by
  have e : (v.toUInt64 >>> UInt64.ofNat (8 * k)).toInt64.toBitVec.toNat = v.toBitVec.toNat / 2 ^ (8 * k) := by
    show (v.toUInt64 >>> UInt64.ofNat (8 * k)).toNat = _
    rw [UInt64.toNat_shiftRight, UInt64.toNat_ofNat', Nat.shiftRight_eq_div_pow]
    have h1 : 8 * k % 2 ^ 64 % 64 = 8 * k := by omega
    rw [h1]
    rfl
  rw [e]
theorem x_dec (x : Int32) : x + Int32.ofInt (-1) = x - 1 := by
  have h : Int32.ofInt (-1) = -1 := by decide
  rw [h, Int32.sub_eq_add_neg]
theorem g_app {us vs : List Nat} {j : Nat} : (us ++ vs).getD j 0 = if j < us.length then us.getD j 0 else vs.getD (j - us.length) 0 := by
  rw [List.getD_eq_getElem?_getD]
  split
  · rename_i h
    rw [List.getElem?_append_left h, List.getD_eq_getElem?_getD]
  · rename_i h
    rw [List.getElem?_append_right (by omega), List.getD_eq_getElem?_getD]
set_option maxHeartbeats 4000000 in
set_option maxRecDepth 100000 in
theorem c_Tp_appendN (l : Launch) {D : va_G} {A : Nat → ClassId} {H0 : Heap} {t r : Nat} {us : List Nat} (h : g_tp D A t r us H0) (v : Int64) {x : Int32} (hbad : x < 0 ∨ 8 < x ∨ nI (400 - us.length) < x) : Met l y_Tp_append w_Tp_append { frames := 0, cells := 0, slots := 0, locals := 0 } (x_Pc D A [.ref t, .long v, .int x] H0) (x_Q (some (.int 0)) (fun H1 => H1 = H0)) 0 0 (fun _ => False) := by
  refine Met.ofW (cc := prog_8_method_2_code) (maxL := 5) (ret := (some .boolean)) (by decide) rfl ?_
  intro p e s m args below meth c s₁ B hml hv
  obtain ⟨rfl, hH, hK, hN⟩ := hv
  obtain ⟨hx, hb, hr, htb, hown, hlocks⟩ := x_start (wd := Cond.code y_Tp_append prog_8_method_2_code 5 (some .boolean)) B
  have hl := lv_entry ([.ref t, .long v, .int x]) (n := 5) (Nat.le_of_ble_eq_true rfl)
  rw [lg_entry_eq]
  generalize (lg_sl ([.ref t, .long v, .int x]) ++ List.replicate (5 - (lg_sl ([.ref t, .long v, .int x])).length) Slot.unset).toArray = ls at hl ⊢
  have hl : lv_has ls 5 [(0, .ref t), (1, .long v), (3, .int x)] := hl
  rw [hH]
  obtain ⟨f, h1, h2, h3, h4, h5, h6⟩ := h
  refine lv_iload_n hx hb d_Tp_append_0 rfl (lv_at hl 2 rfl) ?_
  refine lv_if_lt (tgt := 24) hx hb d_Tp_append_1 (by decide) (fun c1 => ?_) (fun c1 => ?_)
  · refine lv_iconst (v := 0) hx hb d_Tp_append_24 (by decide) ?_
    exact x_zret hx hb hr hlocks rfl (by decide) rfl (fun q hq => by cases hq) (Nat.le_refl _) (Nat.le_refl _) d_Tp_append_25
  · refine lv_iload_n hx hb d_Tp_append_4 rfl (lv_at hl 2 rfl) ?_
    refine lv_bipush (v := 8) hx hb d_Tp_append_5 (by decide) ?_
    refine lv_icmp_gt (tgt := 24) hx hb d_Tp_append_7 (by decide) (fun c2 => ?_) (fun c2 => ?_)
    · refine lv_iconst (v := 0) hx hb d_Tp_append_24 (by decide) ?_
      exact x_zret hx hb hr hlocks rfl (by decide) rfl (fun q hq => by cases hq) (Nat.le_refl _) (Nat.le_refl _) d_Tp_append_25
    · refine lv_iload_n hx hb d_Tp_append_10 rfl (lv_at hl 2 rfl) ?_
      refine lv_aload_n hx hb d_Tp_append_11 rfl (lv_at hl 0 rfl) ?_
      refine x_get (ci := 4) (T := T_Tp) hx hb htb u_Tp hown hK h1 rfl 0 (by decide) (htb _ mw_34) (fun _ h9 => h9) (v := .ref r) rfl d_Tp_append_12 ?_
      refine x_alen hx hb hK 0 h2 rfl (v := nI 400) rfl d_Tp_append_15 ?_
      refine lv_aload_n hx hb d_Tp_append_16 rfl (lv_at hl 0 rfl) ?_
      refine x_get (ci := 4) (T := T_Tp) hx hb htb u_Tp hown hK h1 rfl 1 (by decide) (htb _ mw_35) (fun _ h9 => h9) (v := .int (nI us.length)) rfl d_Tp_append_17 ?_
      refine lv_isub hx hb d_Tp_append_20 ?_
      refine x_top (y := nI (400 - us.length)) (pk_sub h5) ?_
      refine lv_icmp_le (tgt := 26) hx hb d_Tp_append_21 (by decide) (fun c9 => absurd c9 (Int32.not_le.mpr ((hbad.resolve_left c1).resolve_left c2))) (fun _ => ?_)
      refine lv_iconst (v := 0) hx hb d_Tp_append_24 (by decide) ?_
      exact x_zret hx hb hr hlocks rfl (by decide) rfl (fun q hq => by cases hq) (Nat.le_refl _) (Nat.le_refl _) d_Tp_append_25
set_option maxHeartbeats 4000000 in
set_option maxRecDepth 100000 in
theorem c_Tp_append (l : Launch) {D : va_G} {A : Nat → ClassId} {H0 : Heap} {t r n : Nat} {us : List Nat} (h : g_tp D A t r us H0) (v : Int64) (hn : n ≤ 8) (hr2 : us.length + n ≤ 400) (n1 : t ≠ r) : Met l y_Tp_append w_Tp_append { frames := 0, cells := 0, slots := 0, locals := 0 } (x_Pc D A [.ref t, .long v, .int (nI n)] H0) (x_Q (some (.int 1)) (fun H1 => g_tp D A t r (us ++ g_puts v n 0) H1 ∧ x_but2 t r H0 H1)) 0 0 (fun q : Nat => q = t ∨ q = r) := by
  refine Met.ofW (cc := prog_8_method_2_code) (maxL := 5) (ret := (some .boolean)) (by decide) rfl ?_
  intro p e s m args below meth c s₁ B hml hv
  obtain ⟨rfl, hH, hK, hN⟩ := hv
  obtain ⟨hx, hb, hr, htb, hown, hlocks⟩ := x_start (wd := Cond.code y_Tp_append prog_8_method_2_code 5 (some .boolean)) B
  have hl := lv_entry ([.ref t, .long v, .int (nI n)]) (n := 5) (Nat.le_of_ble_eq_true rfl)
  rw [lg_entry_eq]
  generalize (lg_sl ([.ref t, .long v, .int (nI n)]) ++ List.replicate (5 - (lg_sl ([.ref t, .long v, .int (nI n)])).length) Slot.unset).toArray = ls at hl ⊢
  have hl : lv_has ls 5 [(0, .ref t), (1, .long v), (3, .int (nI n))] := hl
  rw [hH]
  obtain ⟨f, h1, h2, h3, h4, h5, h6⟩ := h
  have hL : ∀ q ∈ ([] : List Loc), (fun q : Nat => q = t ∨ q = r) q.base := fun q hq => by cases hq
  refine lv_iload_n hx hb d_Tp_append_0 rfl (lv_at hl 2 rfl) ?_
  refine lv_if_lt (tgt := 24) hx hb d_Tp_append_1 (by decide) (fun c9 => absurd c9 (nI_pos (by omega))) (fun _ => ?_)
  refine lv_iload_n hx hb d_Tp_append_4 rfl (lv_at hl 2 rfl) ?_
  refine lv_bipush (v := 8) hx hb d_Tp_append_5 (by decide) ?_
  refine lv_icmp_gt (tgt := 24) hx hb d_Tp_append_7 (by decide) (fun c9 => absurd c9 (nI_nlt (a := 8) (b := n) hn (by omega))) (fun _ => ?_)
  refine lv_iload_n hx hb d_Tp_append_10 rfl (lv_at hl 2 rfl) ?_
  refine lv_aload_n hx hb d_Tp_append_11 rfl (lv_at hl 0 rfl) ?_
  refine x_get (ci := 4) (T := T_Tp) hx hb htb u_Tp hown hK h1 rfl 0 (by decide) (htb _ mw_34) (fun _ h9 => h9) (v := .ref r) rfl d_Tp_append_12 ?_
  refine x_alen hx hb hK 0 h2 rfl (v := nI 400) rfl d_Tp_append_15 ?_
  refine lv_aload_n hx hb d_Tp_append_16 rfl (lv_at hl 0 rfl) ?_
  refine x_get (ci := 4) (T := T_Tp) hx hb htb u_Tp hown hK h1 rfl 1 (by decide) (htb _ mw_35) (fun _ h9 => h9) (v := .int (nI us.length)) rfl d_Tp_append_17 ?_
  refine lv_isub hx hb d_Tp_append_20 ?_
  refine x_top (y := nI (400 - us.length)) (pk_sub h5) ?_
  refine lv_icmp_le (tgt := 26) hx hb d_Tp_append_21 (by decide) (fun _ => ?_) (fun c9 => absurd (nI_le (by omega) (by omega)) c9)
  refine lv_iload_n hx hb d_Tp_append_26 rfl (lv_at hl 2 rfl) ?_
  refine lv_iconst (v := 1) hx hb d_Tp_append_27 (by decide) ?_
  refine lv_isub hx hb d_Tp_append_28 ?_
  refine lv_istore (lv' := [(4, .int ((nI n) - 1)), (0, .ref t), (1, .long v), (3, .int (nI n))]) hx hb d_Tp_append_29 hl (by decide) rfl (fun ls hl => ?_)
  refine x_loop (σ := Nat × (Nat → Int32) × Heap × List Loc × Array Slot) (fun z => F0 m 31 z.2.2.2.2 []) (fun z => z.2.2.1) (fun z => z.2.2.2.1) (fun z => z.1 ≤ n ∧ va_at D x_cl (t, .inr (4, [.ref r, .int (nI (us ++ g_puts v n z.1).length)])) z.2.2.1 ∧ va_at D x_cl (r, .inl (A 0, 400, .inl z.2.1)) z.2.2.1 ∧ (∀ j, j < (us ++ g_puts v n z.1).length → z.2.1 j = sb_b ((us ++ g_puts v n z.1).getD j 0)) ∧ sb_Fit z.2.1 ∧ x_but2 t r H0 z.2.2.1 ∧ (∀ q ∈ z.2.2.2.1, (fun q : Nat => q = t ∨ q = r) q.base) ∧ lv_has z.2.2.2.2 5 [(4, .int (nI z.1 - 1)), (0, .ref t), (1, .long v)]) (fun z => z.1) (s0 := (n, f, H0, [], ls)) ⟨Nat.le_refl _, by rw [g_puts_0, List.append_nil]; exact h1, h2, by rw [g_puts_0, List.append_nil]; exact h3, h4, x_but2.refl, hL, (lv_sub hl [0, 1, 2] rfl)⟩ ?_
  rintro ⟨i, f, H, locs, ls⟩ ⟨hi, p1, p2, p3, p4, hb2, hL, hl⟩ ih
  dsimp only at hi p1 p2 p3 p4 hb2 hL hl ih ⊢
  have hlen : (us ++ g_puts v n i).length = us.length + (n - i) := by rw [List.length_append, g_puts_len]
  refine lv_iload hx hb d_Tp_append_31 (lv_at hl 0 rfl) ?_
  refine lv_if_lt (tgt := 70) hx hb d_Tp_append_33 (by decide) (fun c1 => ?_) (fun c1 => ?_)
  · have e : i = 0 := by
      cases i with
      | zero => rfl
      | succ j => rw [nI_pred] at c1; exact absurd c1 (nI_pos (by omega))
    subst e
    refine lv_iconst (v := 1) hx hb d_Tp_append_70 (by decide) ?_
    exact x_zret hx hb hr hlocks rfl (by decide) ⟨⟨f, p1, p2, p3, p4, by rw [hlen]; omega, fun u hu => (List.mem_append.mp hu).elim (h6 u) (g_puts_lt u)⟩, hb2⟩ hL (Nat.le_refl _) (Nat.le_refl _) d_Tp_append_71
  · obtain ⟨j, rfl⟩ : ∃ j, i = j + 1 := by
      cases i with
      | zero => exact absurd (by rw [nI_0]; decide) c1
      | succ j => exact ⟨j, rfl⟩
    rw [nI_pred] at hl
    have hst := g_puts_step (v := v) (n := n) (j := j) (by omega)
    refine lv_aload_n hx hb d_Tp_append_36 rfl (lv_at hl 1 rfl) ?_
    refine x_get (ci := 4) (T := T_Tp) hx hb htb u_Tp hown hK p1 rfl 0 (by decide) (htb _ mw_34) (fun _ h9 => h9) (v := .ref r) rfl d_Tp_append_37 ?_
    refine lv_aload_n hx hb d_Tp_append_40 rfl (lv_at hl 1 rfl) ?_
    refine x_get (ci := 4) (T := T_Tp) hx hb htb u_Tp hown hK p1 rfl 1 (by decide) (htb _ mw_35) (fun _ h9 => h9) (v := .int (nI (us ++ g_puts v n (j + 1)).length)) rfl d_Tp_append_41 ?_
    refine lv_lload_n hx hb d_Tp_append_44 rfl (lv_at hl 2 rfl) ?_
    refine lv_bipush (v := 8) hx hb d_Tp_append_45 (by decide) ?_
    refine lv_iload hx hb d_Tp_append_47 (lv_at hl 0 rfl) ?_
    refine lv_imul hx hb d_Tp_append_49 ?_
    refine x_top (y := nI (8 * j)) (pk_mul 8 j) ?_
    refine lv_lushr (v := (v.toUInt64 >>> ((nI (8 * j)).toInt64.toUInt64 &&& Int64.toUInt64 63)).toInt64) hx hb d_Tp_append_50 rfl ?_
    refine lv_l2i (v := ((v.toUInt64 >>> ((nI (8 * j)).toInt64.toUInt64 &&& Int64.toUInt64 63)).toInt64).toInt32) hx hb d_Tp_append_51 rfl ?_
    refine lv_i2b (v := sb_b (g_by v j)) hx hb d_Tp_append_52 (g_ushr v (by omega)) ?_
    refine x_bast (F := fun q : Nat => q = t ∨ q = r) hx hb hK 0 p2 hL (Or.inr rfl) rfl (vp_in_nI (by omega) (by omega)) d_Tp_append_53 (fun H3 locs p2 hm3 hL => ?_)
    have p1 := hm3.at p1 n1
    refine lv_aload_n hx hb d_Tp_append_54 rfl (lv_at hl 1 rfl) ?_
    refine lv_dup hx hb d_Tp_append_55 rfl ?_
    refine x_get (ci := 4) (T := T_Tp) hx hb htb u_Tp hown hK p1 rfl 1 (by decide) (htb _ mw_35) (fun _ h9 => h9) (v := .int (nI (us ++ g_puts v n (j + 1)).length)) rfl d_Tp_append_56 ?_
    refine lv_iconst (v := 1) hx hb d_Tp_append_59 (by decide) ?_
    refine lv_iadd hx hb d_Tp_append_60 ?_
    refine x_top (y := nI ((us ++ g_puts v n (j + 1)).length + 1)) (nI_1 _) ?_
    refine x_put (F := fun q : Nat => q = t ∨ q = r) (ci := 4) (v := .int (nI ((us ++ g_puts v n (j + 1)).length + 1))) (ty := .int) (T := T_Tp) hx hb htb u_Tp t_Tp t_Tp_ok n_Tp hown hK p1 hL (Or.inl rfl) rfl 1 (by decide) (htb _ mw_35) (fun _ h9 => h9) rfl (by decide +kernel) rfl rfl (Nat.le_of_ble_eq_true rfl) d_Tp_append_61 (fun H4 locs p5 hc1 hL => ?_)
    have p5 : va_at D x_cl (t, .inr (4, [.ref r, .int (nI ((us ++ g_puts v n (j + 1)).length + 1))])) H4 := p5
    refine lv_iinc (v := nI j - 1) (lv' := [(4, .int (nI j - 1)), (0, .ref t), (1, .long v)]) hx hb d_Tp_append_64 hl (k := 0) rfl (x_dec _) (by decide) rfl (fun ls hl => ?_)
    refine lv_goto (tgt := 31) hx hb d_Tp_append_67 (by decide) ?_
    have e3 : (us ++ g_puts v n j).length = (us ++ g_puts v n (j + 1)).length + 1 := by rw [hst, ← List.append_assoc, List.length_append]; rfl
    refine ih (j, _, H4, locs, ls) ⟨by show j ≤ n; omega, by show va_at D x_cl (t, .inr (4, [.ref r, .int (nI (us ++ g_puts v n j).length)])) H4; rw [e3]; exact p5, hc1.at p2 n1.symm, fun q hq => ?_, sb_fitU p4 (by rw [vp_nar_byte]; exact pk_fb _), (hb2.trans (x_but2.r hm3)).trans (x_but2.l hc1), hL, (lv_sub hl [0, 1, 2] rfl)⟩ (Nat.lt_succ_self j)
    have hq : q < (us ++ g_puts v n j).length := hq
    rw [e3] at hq
    show upd f (nI (us ++ g_puts v n (j + 1)).length).toNatClampNeg (vp_nar .byte (sb_b (g_by v j))) q = sb_b ((us ++ g_puts v n j).getD q 0)
    rw [nI_clamp (by omega), hst, ← List.append_assoc, g_app]
    by_cases w : q < (us ++ g_puts v n (j + 1)).length
    · rw [if_pos w, pk_un (by omega)]; exact p3 q w
    · have e4 : q = (us ++ g_puts v n (j + 1)).length := by omega
      rw [if_neg w, e4, pk_us, Nat.sub_self]
      show vp_nar .byte (sb_b (g_by v j)) = sb_b (g_by v j)
      unfold sb_b
      exact pk_vb _
end
section
set_option maxHeartbeats 4000000 in
set_option maxRecDepth 100000 in
theorem c_Tp_take (l : Launch) {D : va_G} {A : Nat → ClassId} {H0 : Heap} {M : Nat → Prop} {t r : Nat} {us : List Nat} (h : g_tp D A t r us H0) (hM1 : M t) (hM2 : M r) (hMn : ∀ q, H0.size ≤ q → ¬ M q) (n1 : t ≠ r) : Met l y_Tp_take w_Tp_take { frames := 2, cells := 2, slots := 401, locals := 82 } (x_Pc D A [.ref t] H0) (x_Q (some (.ref H0.size)) (fun H1 => g_bs D A M H0.size us H1 ∧ g_tp D A t r [] H1 ∧ H0.size ≤ H1.size ∧ ∀ q : Nat, q < H0.size → q ≠ t → q ≠ r → H1[q]? = H0[q]?)) 2 401 (x_fr M H0) := by
  refine Met.ofW (cc := prog_8_method_3_code) (maxL := 2) (ret := (some (.object "BreakingDisk$Bytes"))) (by decide) rfl ?_
  intro p e s m args below meth c s₁ B hml hv
  obtain ⟨rfl, hH, hK, hN⟩ := hv
  obtain ⟨hx, hb, hr, htb, hown, hlocks⟩ := x_start (wd := Cond.code y_Tp_take prog_8_method_3_code 2 (some (.object "BreakingDisk$Bytes"))) B
  have hl := lv_entry ([.ref t]) (n := 2) (Nat.le_of_ble_eq_true rfl)
  rw [lg_entry_eq]
  generalize (lg_sl ([.ref t]) ++ List.replicate (2 - (lg_sl ([.ref t])).length) Slot.unset).toArray = ls at hl ⊢
  have hl : lv_has ls 2 [(0, .ref t)] := hl
  rw [hH]
  obtain ⟨f, h1, h2, h3, h4, h5, h6⟩ := h
  have hL : ∀ q ∈ ([] : List Loc), x_fr M H0 q.base := fun q hq => by cases hq
  have hts : t < H0.size := h1.lt
  have hrs : r < H0.size := h2.lt
  refine x_new (ci := 0) (fs := [.null]) (T := T_By) (N := 1) hx hb htb u_By t_By t_By_ok hown (htb _ mw_292) (htb _ mw_76) (htb _ mw_5) hK rfl df_By (Nat.le_of_ble_eq_true rfl) (Nat.le_of_ble_eq_true rfl) d_Tp_take_0 (fun H1 k1 k1z k1o => ?_)
  have q1 : va_at D x_cl (t, .inr (4, [.ref r, .int (nI us.length)])) H1 := h1.kept (k1o t hts)
  have q2 : va_at D x_cl (r, .inl (A 0, 400, .inl f)) H1 := h2.kept (k1o r hrs)
  refine lv_dup hx hb d_Tp_take_3 rfl ?_
  refine lv_aload_n hx hb d_Tp_take_4 rfl (lv_at hl 0 rfl) ?_
  refine x_get (ci := 4) (T := T_Tp) hx hb htb u_Tp hown hK q1 rfl 0 (by decide) (htb _ mw_34) (fun _ h9 => h9) (v := .ref r) rfl d_Tp_take_5 ?_
  refine lv_aload_n hx hb d_Tp_take_8 rfl (lv_at hl 0 rfl) ?_
  refine x_get (ci := 4) (T := T_Tp) hx hb htb u_Tp hown hK q1 rfl 1 (by decide) (htb _ mw_35) (fun _ h9 => h9) (v := .int (nI us.length)) rfl d_Tp_take_9 ?_
  refine x_callr (F := x_fr M H0) (va_runS (As := [.ref r, .int (nI us.length)]) (rest := [.ref H0.size, .ref H0.size]) ⟨hx, hb, hml, hown, htb⟩ (c_Ar_copyOf l q2 h4 (Nat.le_refl _) h5) (x_cS 2 htb mw_293 mw_11 mw_295 mw_294 rfl rfl (by decide +kernel) ⟨Nat.le_of_ble_eq_true rfl, Nat.le_of_ble_eq_true rfl⟩) (x_preS hK hN) rfl rfl hl.1 rfl (lv_room (Nat.le_of_ble_eq_true rfl)) d_Tp_take_12 ⟨Nat.le_of_ble_eq_true rfl, Nat.le_of_ble_eq_true rfl⟩) hL (fun q hq => hq.elim (fun e => Or.inl (e ▸ hM2)) (fun e => Or.inr (by omega))) (fun y H2 locs hP hL => ?_)
  obtain ⟨y1, y2, y3, y4⟩ := hP
  refine W.eq (g2 := F0 m 15 ls [.ref y, .ref H0.size, .ref H0.size]) rfl ?_
  have k2 : va_at D x_cl (H0.size, .inr (0, [.null])) H2 := k1.kept (y4 _ (by omega))
  refine x_call (F := x_fr M H0) (va_runI (As := [.ref y]) (rest := [.ref H0.size]) ⟨hx, hb, hml, hown, htb⟩ (c_By_init l (r := y) k2) (x_cI 1 htb mw_309 mw_5 mw_79 mw_78 rfl rfl rfl (by decide +kernel) ⟨Nat.le_of_ble_eq_true rfl, Nat.le_of_ble_eq_true rfl⟩) (x_preS hK hN) rfl rfl hl.1 rfl (lv_room (Nat.le_of_ble_eq_true rfl)) d_Tp_take_15 ⟨Nat.le_of_ble_eq_true rfl, Nat.le_of_ble_eq_true rfl⟩) hL (fun q hq => Or.inr (by rw [hq]; exact Nat.le_refl _)) (fun H3 locs hP hL => ?_)
  refine W.eq (g2 := F0 m 18 ls [.ref H0.size]) rfl ?_
  obtain ⟨k3, hb3⟩ := hP
  refine lv_astore_n (lv' := [(1, .ref H0.size), (0, .ref t)]) hx hb d_Tp_take_18 rfl hl (by decide) rfl (fun ls hl => ?_)
  refine lv_aload_n hx hb d_Tp_take_19 rfl (lv_at hl 1 rfl) ?_
  refine lv_iconst (v := 0) hx hb d_Tp_take_20 (by decide) ?_
  have q1 : va_at D x_cl (t, .inr (4, [.ref r, .int (nI us.length)])) H3 := hb3.at (q1.kept (y4 t (by omega))) (by omega)
  refine x_put (F := x_fr M H0) (ci := 4) (v := .int 0) (ty := .int) (T := T_Tp) hx hb htb u_Tp t_Tp t_Tp_ok n_Tp hown hK q1 hL (Or.inl hM1) rfl 1 (by decide) (htb _ mw_35) (fun _ h9 => h9) rfl (by decide +kernel) rfl rfl (Nat.le_of_ble_eq_true rfl) d_Tp_take_21 (fun H4 locs q5 hc1 hL => ?_)
  have q5 : va_at D x_cl (t, .inr (4, [.ref r, .int 0])) H4 := q5
  refine lv_aload_n hx hb d_Tp_take_24 rfl (lv_at hl 0 rfl) ?_
  have hk4 : x_but t H3 H4 := hc1
  have hold : ∀ q : Nat, q < H0.size → q ≠ t → H4[q]? = H0[q]? := fun q hq hqt => by
    rw [hk4.2 q hqt, hb3.2 q (by omega), y4 q (by omega), k1o q hq]
  have hz : H0.size ≤ H4.size := by
    rw [hk4.1, hb3.1]
    omega
  have hyy : va_at D x_cl (y, .inl (A 0, us.length, .inl f)) H4 := hk4.at (hb3.at y2 (by omega)) (by omega)
  refine x_aret hx hb hr (Or.inl ⟨_, rfl⟩) (Or.inr ⟨_, rfl⟩) hlocks ⟨⟨y, hk4.at k3 (by omega), ?_, hMn _ (Nat.le_refl _), hMn _ (by omega), h6, h5⟩, ⟨f, q5, h2.kept (hold r hrs n1.symm), fun j hj => absurd hj (Nat.not_lt_zero j), h4, Nat.zero_le _, fun u hu => by cases hu⟩, hz, fun q hq h1 h2 => hold q hq h1⟩ hL (Nat.le_refl _) (Nat.le_refl _) d_Tp_take_25
  show H4[y]? = some (vp_cell (A 0) (us.length, .inl (fun j => sb_b (us.getD j 0))))
  rw [show H4[y]? = some _ from hyy]
  exact congrArg some (g_arr h3)
end
section
/-! CONSTRUCTORS that make rows -/
set_option maxHeartbeats 4000000 in
set_option maxRecDepth 100000 in
theorem c_Tp_init (l : Launch) {D : va_G} {A : Nat → ClassId} {H0 : Heap} {t : Nat} (h : va_at D x_cl (t, .inr (4, [.null, .int 0])) H0) : Met l y_Tp_init w_Tp_init { frames := 1, cells := 1, slots := 400, locals := 12 } (x_Pc D A [.ref t] H0) (x_Q none (fun H1 => g_tp D A t H0.size [] H1 ∧ H1.size = H0.size + 1 ∧ ∀ q : Nat, q < H0.size → q ≠ t → H1[q]? = H0[q]?)) 1 400 (fun q : Nat => q = t ∨ H0.size ≤ q) := by
  refine Met.ofW (cc := prog_8_method_1_code) (maxL := 1) (ret := none) (by decide) rfl ?_
  intro p e s m args below meth c s₁ B hml hv
  obtain ⟨rfl, hH, hK, hN⟩ := hv
  obtain ⟨hx, hb, hr, htb, hown, hlocks⟩ := x_start (wd := Cond.code y_Tp_init prog_8_method_1_code 1 none) B
  have hin : meth.name = "<init>" := (name_of_methodNamed B.named B.method).1
  have hl := lv_entry ([.ref t]) (n := 1) (Nat.le_of_ble_eq_true rfl)
  rw [lg_entry_eq]
  generalize (lg_sl ([.ref t]) ++ List.replicate (1 - (lg_sl ([.ref t])).length) Slot.unset).toArray = ls at hl ⊢
  have hl : lv_has ls 1 [(0, .ref t)] := hl
  rw [hH]
  have hL : ∀ q ∈ ([] : List Loc), (fun q : Nat => q = t ∨ H0.size ≤ q) q.base := fun q hq => by cases hq
  have hts : t < H0.size := h.lt
  refine lv_aload_n hx hb d_Tp_init_0 rfl (lv_at hl 0 rfl) ?_
  refine W.objInit hx hb hown (htb _ mw_33) (htb _ mw_26) (show (Cond.code objectInit ⟨#[0xb1]⟩ 1 none).before _ s = true from htb _ mw_27) rfl (by rw [hml]; exact hl.1) rfl d_Tp_init_1 (Nat.le_of_ble_eq_true rfl) (Nat.le_of_ble_eq_true rfl) ?_
  refine W.eq (g2 := F0 m 4 ls []) rfl ?_
  refine lv_aload_n hx hb d_Tp_init_4 rfl (lv_at hl 0 rfl) ?_
  refine lv_sipush (v := 400) hx hb d_Tp_init_5 (by decide) ?_
  refine x_newa (atype := .byte) hx hb (htb _ mw_42) (ty := .byte) rfl hK 0 rfl (fun C q => by cases q) (N' := 400) (a0 := (400, .inl (fun _ => 0))) rfl (by decide) (by decide) (by decide) (Nat.le_of_ble_eq_true rfl) (Nat.le_of_ble_eq_true rfl) d_Tp_init_8 (fun H1 k1 k1z k1o => ?_)
  have h1 : va_at D x_cl (t, .inr (4, [.null, .int 0])) H1 := h.kept (k1o t hts)
  refine x_putF (F := fun q : Nat => q = t ∨ H0.size ≤ q) (ci := 4) (v := .ref H0.size) (ty := .array .byte) (T := T_Tp) hx hb htb u_Tp t_Tp t_Tp_ok n_Tp hown hK h1 hL (Or.inl rfl) rfl 0 (by decide) (htb _ mw_34) (fun _ h9 => h9) rfl hin rfl (by decide +kernel) rfl rfl (Nat.le_of_ble_eq_true rfl) d_Tp_init_10 (fun H2 locs h2 hc1 hL => ?_)
  have h2 : va_at D x_cl (t, .inr (4, [.ref H0.size, .int 0])) H2 := h2
  refine lv_aload_n hx hb d_Tp_init_13 rfl (lv_at hl 0 rfl) ?_
  refine lv_iconst (v := 0) hx hb d_Tp_init_14 (by decide) ?_
  refine x_put (F := fun q : Nat => q = t ∨ H0.size ≤ q) (ci := 4) (v := .int 0) (ty := .int) (T := T_Tp) hx hb htb u_Tp t_Tp t_Tp_ok n_Tp hown hK h2 hL (Or.inl rfl) rfl 1 (by decide) (htb _ mw_35) (fun _ h9 => h9) rfl (by decide +kernel) rfl rfl (Nat.le_of_ble_eq_true rfl) d_Tp_init_15 (fun H3 locs h3 hc2 hL => ?_)
  have h3 : va_at D x_cl (t, .inr (4, [.ref H0.size, .int 0])) H3 := h3
  have hb3 := hc1.trans hc2
  have k3 := hb3.at k1 (by omega)
  exact x_vret hx hb hr hlocks ⟨⟨fun _ => 0, h3, k3, fun j hj => absurd hj (Nat.not_lt_zero j), sb_fit0, Nat.zero_le _, fun u hu => by cases hu⟩, by rw [hb3.1, k1z], fun q hq hqt => by rw [hb3.2 q hqt, k1o q hq]⟩ hL (Nat.le_refl _) (Nat.le_refl _) d_Tp_init_18
set_option maxHeartbeats 4000000 in
set_option maxRecDepth 100000 in
theorem c_Fi_init (l : Launch) {D : va_G} {A : Nat → ClassId} {H0 : Heap} {t : Nat} (h : va_at D x_cl (t, .inr (5, [.null, .int 0])) H0) : Met l y_Fi_init w_Fi_init { frames := 1, cells := 1, slots := 60, locals := 12 } (x_Pc D A [.ref t] H0) (x_Q none (fun H1 => g_fr D A 5 1 60 t H0.size [] H1 ∧ H1.size = H0.size + 1 ∧ ∀ q : Nat, q < H0.size → q ≠ t → H1[q]? = H0[q]?)) 1 60 (fun q : Nat => q = t ∨ H0.size ≤ q) := by
  refine Met.ofW (cc := prog_3_method_1_code) (maxL := 1) (ret := none) (by decide) rfl ?_
  intro p e s m args below meth c s₁ B hml hv
  obtain ⟨rfl, hH, hK, hN⟩ := hv
  obtain ⟨hx, hb, hr, htb, hown, hlocks⟩ := x_start (wd := Cond.code y_Fi_init prog_3_method_1_code 1 none) B
  have hin : meth.name = "<init>" := (name_of_methodNamed B.named B.method).1
  have hl := lv_entry ([.ref t]) (n := 1) (Nat.le_of_ble_eq_true rfl)
  rw [lg_entry_eq]
  generalize (lg_sl ([.ref t]) ++ List.replicate (1 - (lg_sl ([.ref t])).length) Slot.unset).toArray = ls at hl ⊢
  have hl : lv_has ls 1 [(0, .ref t)] := hl
  rw [hH]
  have hL : ∀ q ∈ ([] : List Loc), (fun q : Nat => q = t ∨ H0.size ≤ q) q.base := fun q hq => by cases hq
  have hts : t < H0.size := h.lt
  refine lv_aload_n hx hb d_Fi_init_0 rfl (lv_at hl 0 rfl) ?_
  refine W.objInit hx hb hown (htb _ mw_48) (htb _ mw_26) (show (Cond.code objectInit ⟨#[0xb1]⟩ 1 none).before _ s = true from htb _ mw_27) rfl (by rw [hml]; exact hl.1) rfl d_Fi_init_1 (Nat.le_of_ble_eq_true rfl) (Nat.le_of_ble_eq_true rfl) ?_
  refine W.eq (g2 := F0 m 4 ls []) rfl ?_
  refine lv_aload_n hx hb d_Fi_init_4 rfl (lv_at hl 0 rfl) ?_
  refine lv_bipush (v := 60) hx hb d_Fi_init_5 (by decide) ?_
  refine x_newq (C := "BreakingDisk$StoredFile") hx hb hown (htb _ mw_49) (va_AO.use (hN.1 _ nf_50)) hK 1 rfl (N' := 60) (by decide) (by decide) (by decide) (Nat.le_of_ble_eq_true rfl) (Nat.le_of_ble_eq_true rfl) d_Fi_init_7 (fun H1 k1 k1z k1o => ?_)
  have h1 : va_at D x_cl (t, .inr (5, [.null, .int 0])) H1 := h.kept (k1o t hts)
  refine x_putF (F := fun q : Nat => q = t ∨ H0.size ≤ q) (ci := 5) (v := .ref H0.size) (ty := .array (.object "BreakingDisk$StoredFile")) (T := T_Fi) hx hb htb u_Fi t_Fi t_Fi_ok n_Fi hown hK h1 hL (Or.inl rfl) rfl 0 (by decide) (htb _ mw_51) (fun _ h9 => h9) rfl hin rfl (by decide +kernel) rfl rfl (Nat.le_of_ble_eq_true rfl) d_Fi_init_10 (fun H2 locs h2 hc3 hL => ?_)
  have h2 : va_at D x_cl (t, .inr (5, [.ref H0.size, .int 0])) H2 := h2
  refine lv_aload_n hx hb d_Fi_init_13 rfl (lv_at hl 0 rfl) ?_
  refine lv_iconst (v := 0) hx hb d_Fi_init_14 (by decide) ?_
  refine x_put (F := fun q : Nat => q = t ∨ H0.size ≤ q) (ci := 5) (v := .int 0) (ty := .int) (T := T_Fi) hx hb htb u_Fi t_Fi t_Fi_ok n_Fi hown hK h2 hL (Or.inl rfl) rfl 1 (by decide) (htb _ mw_52) (fun _ h9 => h9) rfl (by decide +kernel) rfl rfl (Nat.le_of_ble_eq_true rfl) d_Fi_init_15 (fun H3 locs h3 hc4 hL => ?_)
  have h3 : va_at D x_cl (t, .inr (5, [.ref H0.size, .int 0])) H3 := h3
  have hb3 := hc3.trans hc4
  have k3 := hb3.at k1 (by omega)
  exact x_vret hx hb hr hlocks ⟨⟨fun _ => none, h3, k3, fun j a q => by simp at q, Nat.zero_le _⟩, by rw [hb3.1, k1z], fun q hq hqt => by rw [hb3.2 q hqt, k1o q hq]⟩ hL (Nat.le_refl _) (Nat.le_refl _) d_Fi_init_18
set_option maxHeartbeats 4000000 in
set_option maxRecDepth 100000 in
theorem c_Jo_init (l : Launch) {D : va_G} {A : Nat → ClassId} {H0 : Heap} {t : Nat} (h : va_at D x_cl (t, .inr (6, [.null, .int 0])) H0) : Met l y_Jo_init w_Jo_init { frames := 1, cells := 1, slots := 200, locals := 12 } (x_Pc D A [.ref t] H0) (x_Q none (fun H1 => g_fr D A 6 2 200 t H0.size [] H1 ∧ H1.size = H0.size + 1 ∧ ∀ q : Nat, q < H0.size → q ≠ t → H1[q]? = H0[q]?)) 1 200 (fun q : Nat => q = t ∨ H0.size ≤ q) := by
  refine Met.ofW (cc := prog_4_method_1_code) (maxL := 1) (ret := none) (by decide) rfl ?_
  intro p e s m args below meth c s₁ B hml hv
  obtain ⟨rfl, hH, hK, hN⟩ := hv
  obtain ⟨hx, hb, hr, htb, hown, hlocks⟩ := x_start (wd := Cond.code y_Jo_init prog_4_method_1_code 1 none) B
  have hin : meth.name = "<init>" := (name_of_methodNamed B.named B.method).1
  have hl := lv_entry ([.ref t]) (n := 1) (Nat.le_of_ble_eq_true rfl)
  rw [lg_entry_eq]
  generalize (lg_sl ([.ref t]) ++ List.replicate (1 - (lg_sl ([.ref t])).length) Slot.unset).toArray = ls at hl ⊢
  have hl : lv_has ls 1 [(0, .ref t)] := hl
  rw [hH]
  have hL : ∀ q ∈ ([] : List Loc), (fun q : Nat => q = t ∨ H0.size ≤ q) q.base := fun q hq => by cases hq
  have hts : t < H0.size := h.lt
  refine lv_aload_n hx hb d_Jo_init_0 rfl (lv_at hl 0 rfl) ?_
  refine W.objInit hx hb hown (htb _ mw_64) (htb _ mw_26) (show (Cond.code objectInit ⟨#[0xb1]⟩ 1 none).before _ s = true from htb _ mw_27) rfl (by rw [hml]; exact hl.1) rfl d_Jo_init_1 (Nat.le_of_ble_eq_true rfl) (Nat.le_of_ble_eq_true rfl) ?_
  refine W.eq (g2 := F0 m 4 ls []) rfl ?_
  refine lv_aload_n hx hb d_Jo_init_4 rfl (lv_at hl 0 rfl) ?_
  refine lv_sipush (v := 200) hx hb d_Jo_init_5 (by decide) ?_
  refine x_newq (C := "BreakingDisk$Operation") hx hb hown (htb _ mw_65) (va_AO.use (hN.1 _ nf_66)) hK 2 rfl (N' := 200) (by decide) (by decide) (by decide) (Nat.le_of_ble_eq_true rfl) (Nat.le_of_ble_eq_true rfl) d_Jo_init_8 (fun H1 k1 k1z k1o => ?_)
  have h1 : va_at D x_cl (t, .inr (6, [.null, .int 0])) H1 := h.kept (k1o t hts)
  refine x_putF (F := fun q : Nat => q = t ∨ H0.size ≤ q) (ci := 6) (v := .ref H0.size) (ty := .array (.object "BreakingDisk$Operation")) (T := T_Jo) hx hb htb u_Jo t_Jo t_Jo_ok n_Jo hown hK h1 hL (Or.inl rfl) rfl 0 (by decide) (htb _ mw_67) (fun _ h9 => h9) rfl hin rfl (by decide +kernel) rfl rfl (Nat.le_of_ble_eq_true rfl) d_Jo_init_11 (fun H2 locs h2 hc5 hL => ?_)
  have h2 : va_at D x_cl (t, .inr (6, [.ref H0.size, .int 0])) H2 := h2
  refine lv_aload_n hx hb d_Jo_init_14 rfl (lv_at hl 0 rfl) ?_
  refine lv_iconst (v := 0) hx hb d_Jo_init_15 (by decide) ?_
  refine x_put (F := fun q : Nat => q = t ∨ H0.size ≤ q) (ci := 6) (v := .int 0) (ty := .int) (T := T_Jo) hx hb htb u_Jo t_Jo t_Jo_ok n_Jo hown hK h2 hL (Or.inl rfl) rfl 1 (by decide) (htb _ mw_68) (fun _ h9 => h9) rfl (by decide +kernel) rfl rfl (Nat.le_of_ble_eq_true rfl) d_Jo_init_16 (fun H3 locs h3 hc6 hL => ?_)
  have h3 : va_at D x_cl (t, .inr (6, [.ref H0.size, .int 0])) H3 := h3
  have hb3 := hc5.trans hc6
  have k3 := hb3.at k1 (by omega)
  exact x_vret hx hb hr hlocks ⟨⟨fun _ => none, h3, k3, fun j a q => by simp at q, Nat.zero_le _⟩, by rw [hb3.1, k1z], fun q hq hqt => by rw [hb3.2 q hqt, k1o q hq]⟩ hL (Nat.le_refl _) (Nat.le_refl _) d_Jo_init_19
end
section
/-- what a disk holds: tape, path, files now and as kept, what was listed, operations, how many there were -/
abbrev g_S : Type := List Nat × List Nat × List g_F × List g_F × List g_F × List g_O × Nat
def g_D (D : va_G) (A : Nat → ClassId) (a z : Nat) (S : g_S) (H : Heap) : Prop :=
  ∃ (pa : Nat) (as bs cs ds : List Nat), va_at D x_cl (a, .inr (7, [.ref z, .ref (z + 2), .ref (z + 4), .ref (z + 6), .ref (z + 8), .ref pa, .int (nI S.2.2.2.2.2.2)])) H ∧ g_tp D A z (z + 1) S.1 H ∧ g_bs D A (g_Mx a z) pa S.2.1 H ∧
    (g_fr D A 5 1 60 (z + 2) (z + 3) as H ∧ g_fs D A (g_Mx a z) as S.2.2.1 H) ∧ (g_fr D A 5 1 60 (z + 4) (z + 5) bs H ∧ g_fs D A (g_Mx a z) bs S.2.2.2.1 H) ∧ (g_fr D A 5 1 60 (z + 6) (z + 7) cs H ∧ g_fs D A (g_Mx a z) cs S.2.2.2.2.1 H) ∧ (g_fr D A 6 2 200 (z + 8) (z + 9) ds H ∧ g_os D A (g_Mx a z) ds S.2.2.2.2.2.1 H) ∧ a < z ∧ z + 29 ≤ H.size
theorem g_fr.kept {D : va_G} {A : Nat → ClassId} {ci t n h r : Nat} {as : List Nat} {H H1 : Heap} (x : g_fr D A ci t n h r as H) (h1 : H1[h]? = H[h]?) (h2 : H1[r]? = H[r]?) : g_fr D A ci t n h r as H1 := by
  obtain ⟨g, q1, q2, q3⟩ := x
  exact ⟨g, q1.kept h1, q2.kept h2, q3⟩
theorem g_tp.kept {D : va_G} {A : Nat → ClassId} {t r : Nat} {us : List Nat} {H H1 : Heap} (x : g_tp D A t r us H) (h1 : H1[t]? = H[t]?) (h2 : H1[r]? = H[r]?) : g_tp D A t r us H1 := by
  obtain ⟨f, q1, q2, q3⟩ := x
  exact ⟨f, q1.kept h1, q2.kept h2, q3⟩
theorem g_fs.nil {D : va_G} {A : Nat → ClassId} {M : Nat → Prop} {H : Heap} : g_fs D A M [] [] H := ⟨rfl, fun j a f h => by simp at h⟩
theorem g_os.nil {D : va_G} {A : Nat → ClassId} {M : Nat → Prop} {H : Heap} : g_os D A M [] [] H := ⟨rfl, fun j a f h => by simp at h⟩
theorem x_le {a b c : Nat} (h : a ≤ b) (h2 : b ≤ c) : a ≤ c := Nat.le_trans h h2
theorem x_stage {H Ha Hb Hc : Heap} {a : Nat} (kz : Ha.size = H.size + 1) (ko : ∀ q : Nat, q < H.size → Ha[q]? = H[q]?) (mz : Hb.size = Ha.size + 1) (mo : ∀ q : Nat, q < Ha.size → q ≠ H.size → Hb[q]? = Ha[q]?) (hb : x_but a Hb Hc) : Hc.size = H.size + 2 ∧ ∀ q : Nat, q < H.size → q ≠ a → Hc[q]? = H[q]? :=
  ⟨by rw [hb.1, mz, kz], fun q hq hqa => by rw [hb.2 q hqa, mo q (by omega) (by omega), ko q hq]⟩
set_option maxHeartbeats 4000000 in
set_option maxRecDepth 100000 in
theorem c_Bd_init (l : Launch) {D : va_G} {A : Nat → ClassId} {H0 : Heap} {a z : Nat} (hzz : H0.size = z) (h : va_at D x_cl (a, .inr (7, [.null, .null, .null, .null, .null, .null, .int 0])) H0) : Met l y_Bd_init w_Bd_init { frames := 2, cells := 12, slots := 791, locals := 33 } (x_Pc D A [.ref a] H0) (x_Q none (fun H1 => (∀ H2 : Heap, z + 29 ≤ H2.size → (∀ q : Nat, q < z + 12 → H2[q]? = H1[q]?) → g_D D A a z ([], [], [], [], [], [], 0) H2) ∧ H1.size = z + 12 ∧ ∀ q : Nat, q < z → q ≠ a → H1[q]? = H0[q]?)) 12 791 (fun q : Nat => q = a ∨ z ≤ q) := by
  refine Met.ofW (cc := prog_1_method_1_code) (maxL := 1) (ret := none) (by decide) rfl ?_
  intro p e s m args below meth c s₁ B hml hv
  obtain ⟨rfl, hH, hK, hN⟩ := hv
  obtain ⟨hx, hb, hr, htb, hown, hlocks⟩ := x_start (wd := Cond.code y_Bd_init prog_1_method_1_code 1 none) B
  have hin : meth.name = "<init>" := (name_of_methodNamed B.named B.method).1
  have hl := lv_entry ([.ref a]) (n := 1) (Nat.le_of_ble_eq_true rfl)
  rw [lg_entry_eq]
  generalize (lg_sl ([.ref a]) ++ List.replicate (1 - (lg_sl ([.ref a])).length) Slot.unset).toArray = ls at hl ⊢
  have hl : lv_has ls 1 [(0, .ref a)] := hl
  rw [hH]
  have hL : ∀ q ∈ ([] : List Loc), (fun q : Nat => q = a ∨ z ≤ q) q.base := fun q hq => by cases hq
  have has : a < z := by rw [← hzz]; exact h.lt
  refine lv_aload_n hx hb d_Bd_init_0 rfl (lv_at hl 0 rfl) ?_
  refine W.objInit hx hb hown (htb _ mw_25) (htb _ mw_26) (show (Cond.code objectInit ⟨#[0xb1]⟩ 1 none).before _ s = true from htb _ mw_27) rfl (by rw [hml]; exact hl.1) rfl d_Bd_init_1 (Nat.le_of_ble_eq_true rfl) (Nat.le_of_ble_eq_true rfl) ?_
  refine W.eq (g2 := F0 m 4 ls []) rfl ?_
  have zz0 : H0.size = z := hzz
  refine lv_aload_n hx hb d_Bd_init_4 rfl (lv_at hl 0 rfl) ?_
  refine x_new (ci := 4) (fs := [.null, .int 0]) (T := T_Tp) (N := 2) hx hb htb u_Tp t_Tp t_Tp_ok hown (htb _ mw_28) (htb _ mw_29) (htb _ mw_2) hK rfl df_Tp (Nat.le_of_ble_eq_true rfl) (Nat.le_of_ble_eq_true rfl) d_Bd_init_5 (fun Ha0 k0 k0z k0o => ?_)
  rw [zz0]
  have kk0 := k0
  rw [zz0] at kk0
  have an0 : a < H0.size := by rw [zz0]; omega
  have h := h.kept (k0o a an0)
  refine lv_dup hx hb d_Bd_init_8 rfl ?_
  refine x_call (F := fun q : Nat => q = a ∨ z ≤ q) (va_runIN (As := []) (rest := [.ref z, .ref a]) ⟨hx, hb, hml, hown, htb⟩ (c_Tp_init l kk0) ⟨va_cnB 0 htb (x_goodT mw_32) rfl rfl rfl (hN.1 _ nf_30) (htb _ mw_2) (by decide +kernel) ⟨Nat.le_of_ble_eq_true rfl, Nat.le_of_ble_eq_true rfl⟩, rfl, htb _ mw_31⟩ (x_preS hK hN) rfl rfl hl.1 rfl (lv_room (Nat.le_of_ble_eq_true rfl)) d_Bd_init_9 ⟨Nat.le_of_ble_eq_true rfl, Nat.le_of_ble_eq_true rfl⟩) hL (fun q hq => Or.inr (hq.elim (fun e => by rw [e]; omega) (fun e => x_le (by rw [k0z, zz0]; omega) e))) (fun Hb0 locs hP hL => ?_)
  refine W.eq (g2 := F0 m 12 ls [.ref z, .ref a]) rfl ?_
  obtain ⟨m0, mz0, mo0⟩ := hP
  rw [show Ha0.size = z + 1 by rw [k0z, zz0]] at m0
  have h := h.kept (mo0 a (by rw [k0z]; omega) (by omega))
  refine x_putF (F := fun q : Nat => q = a ∨ z ≤ q) (ci := 7) (v := .ref z) (ty := .object "BreakingDisk$Tape") (T := T_Bd) hx hb htb u_Bd t_Bd t_Bd_ok n_Bd hown hK h hL (Or.inl rfl) rfl 0 (by decide) (htb _ mw_85) (fun _ h9 => h9) rfl hin rfl (by decide +kernel) rfl rfl (Nat.le_of_ble_eq_true rfl) d_Bd_init_12 (fun Hc0 locs h0a hc1 hL => ?_)
  have h0a : va_at D x_cl (a, .inr (7, [.ref z, .null, .null, .null, .null, .null, .int 0])) Hc0 := h0a
  have m0 := m0.kept (hc1.2 _ (by omega)) (hc1.2 _ (by omega))
  have st0 := x_stage k0z k0o mz0 (fun q h1 h2 => mo0 q h1 (fun e => h2 (by rw [zz0]; exact e))) hc1
  have zz1 : Hc0.size = z + 2 := by rw [st0.1, zz0]
  clear mz0 k0z an0
  refine lv_aload_n hx hb d_Bd_init_15 rfl (lv_at hl 0 rfl) ?_
  refine x_new (ci := 5) (fs := [.null, .int 0]) (T := T_Fi) (N := 2) hx hb htb u_Fi t_Fi t_Fi_ok hown (htb _ mw_43) (htb _ mw_44) (htb _ mw_3) hK rfl df_Fi (Nat.le_of_ble_eq_true rfl) (Nat.le_of_ble_eq_true rfl) d_Bd_init_16 (fun Ha1 k1 k1z k1o => ?_)
  rw [zz1]
  have kk1 := k1
  rw [zz1] at kk1
  have an1 : a < Hc0.size := by rw [zz1]; omega
  have h0a := h0a.kept (k1o a an1)
  refine lv_dup hx hb d_Bd_init_19 rfl ?_
  refine x_call (F := fun q : Nat => q = a ∨ z ≤ q) (va_runIN (As := []) (rest := [.ref (z + 2), .ref a]) ⟨hx, hb, hml, hown, htb⟩ (c_Fi_init l kk1) ⟨va_cnB 0 htb (x_goodT mw_47) rfl rfl rfl (hN.1 _ nf_45) (htb _ mw_3) (by decide +kernel) ⟨Nat.le_of_ble_eq_true rfl, Nat.le_of_ble_eq_true rfl⟩, rfl, htb _ mw_46⟩ (x_preS hK hN) rfl rfl hl.1 rfl (lv_room (Nat.le_of_ble_eq_true rfl)) d_Bd_init_20 ⟨Nat.le_of_ble_eq_true rfl, Nat.le_of_ble_eq_true rfl⟩) hL (fun q hq => Or.inr (hq.elim (fun e => by rw [e]; omega) (fun e => x_le (by rw [k1z, zz1]; omega) e))) (fun Hb1 locs hP hL => ?_)
  refine W.eq (g2 := F0 m 23 ls [.ref (z + 2), .ref a]) rfl ?_
  obtain ⟨m1, mz1, mo1⟩ := hP
  rw [show Ha1.size = z + 3 by rw [k1z, zz1]] at m1
  have h0a := h0a.kept (mo1 a (by rw [k1z]; omega) (by omega))
  refine x_putF (F := fun q : Nat => q = a ∨ z ≤ q) (ci := 7) (v := .ref (z + 2)) (ty := .object "BreakingDisk$Files") (T := T_Bd) hx hb htb u_Bd t_Bd t_Bd_ok n_Bd hown hK h0a hL (Or.inl rfl) rfl 1 (by decide) (htb _ mw_86) (fun _ h9 => h9) rfl hin rfl (by decide +kernel) rfl rfl (Nat.le_of_ble_eq_true rfl) d_Bd_init_23 (fun Hc1 locs h1a hc2 hL => ?_)
  have h1a : va_at D x_cl (a, .inr (7, [.ref z, .ref (z + 2), .null, .null, .null, .null, .int 0])) Hc1 := h1a
  have m1 := m1.kept (hc2.2 _ (by omega)) (hc2.2 _ (by omega))
  have st1 := x_stage k1z k1o mz1 (fun q h1 h2 => mo1 q h1 (fun e => h2 (by rw [zz1]; exact e))) hc2
  have zz2 : Hc1.size = z + 4 := by rw [st1.1, zz1]
  clear mz1 k1z an1
  refine lv_aload_n hx hb d_Bd_init_26 rfl (lv_at hl 0 rfl) ?_
  refine x_new (ci := 5) (fs := [.null, .int 0]) (T := T_Fi) (N := 2) hx hb htb u_Fi t_Fi t_Fi_ok hown (htb _ mw_43) (htb _ mw_44) (htb _ mw_3) hK rfl df_Fi (Nat.le_of_ble_eq_true rfl) (Nat.le_of_ble_eq_true rfl) d_Bd_init_27 (fun Ha2 k2 k2z k2o => ?_)
  rw [zz2]
  have kk2 := k2
  rw [zz2] at kk2
  have an2 : a < Hc1.size := by rw [zz2]; omega
  have h1a := h1a.kept (k2o a an2)
  refine lv_dup hx hb d_Bd_init_30 rfl ?_
  refine x_call (F := fun q : Nat => q = a ∨ z ≤ q) (va_runIN (As := []) (rest := [.ref (z + 4), .ref a]) ⟨hx, hb, hml, hown, htb⟩ (c_Fi_init l kk2) ⟨va_cnB 0 htb (x_goodT mw_47) rfl rfl rfl (hN.1 _ nf_45) (htb _ mw_3) (by decide +kernel) ⟨Nat.le_of_ble_eq_true rfl, Nat.le_of_ble_eq_true rfl⟩, rfl, htb _ mw_46⟩ (x_preS hK hN) rfl rfl hl.1 rfl (lv_room (Nat.le_of_ble_eq_true rfl)) d_Bd_init_31 ⟨Nat.le_of_ble_eq_true rfl, Nat.le_of_ble_eq_true rfl⟩) hL (fun q hq => Or.inr (hq.elim (fun e => by rw [e]; omega) (fun e => x_le (by rw [k2z, zz2]; omega) e))) (fun Hb2 locs hP hL => ?_)
  refine W.eq (g2 := F0 m 34 ls [.ref (z + 4), .ref a]) rfl ?_
  obtain ⟨m2, mz2, mo2⟩ := hP
  rw [show Ha2.size = z + 5 by rw [k2z, zz2]] at m2
  have h1a := h1a.kept (mo2 a (by rw [k2z]; omega) (by omega))
  refine x_putF (F := fun q : Nat => q = a ∨ z ≤ q) (ci := 7) (v := .ref (z + 4)) (ty := .object "BreakingDisk$Files") (T := T_Bd) hx hb htb u_Bd t_Bd t_Bd_ok n_Bd hown hK h1a hL (Or.inl rfl) rfl 2 (by decide) (htb _ mw_87) (fun _ h9 => h9) rfl hin rfl (by decide +kernel) rfl rfl (Nat.le_of_ble_eq_true rfl) d_Bd_init_34 (fun Hc2 locs h2a hc3 hL => ?_)
  have h2a : va_at D x_cl (a, .inr (7, [.ref z, .ref (z + 2), .ref (z + 4), .null, .null, .null, .int 0])) Hc2 := h2a
  have m2 := m2.kept (hc3.2 _ (by omega)) (hc3.2 _ (by omega))
  have st2 := x_stage k2z k2o mz2 (fun q h1 h2 => mo2 q h1 (fun e => h2 (by rw [zz2]; exact e))) hc3
  have zz3 : Hc2.size = z + 6 := by rw [st2.1, zz2]
  clear mz2 k2z an2
  refine lv_aload_n hx hb d_Bd_init_37 rfl (lv_at hl 0 rfl) ?_
  refine x_new (ci := 5) (fs := [.null, .int 0]) (T := T_Fi) (N := 2) hx hb htb u_Fi t_Fi t_Fi_ok hown (htb _ mw_43) (htb _ mw_44) (htb _ mw_3) hK rfl df_Fi (Nat.le_of_ble_eq_true rfl) (Nat.le_of_ble_eq_true rfl) d_Bd_init_38 (fun Ha3 k3 k3z k3o => ?_)
  rw [zz3]
  have kk3 := k3
  rw [zz3] at kk3
  have an3 : a < Hc2.size := by rw [zz3]; omega
  have h2a := h2a.kept (k3o a an3)
  refine lv_dup hx hb d_Bd_init_41 rfl ?_
  refine x_call (F := fun q : Nat => q = a ∨ z ≤ q) (va_runIN (As := []) (rest := [.ref (z + 6), .ref a]) ⟨hx, hb, hml, hown, htb⟩ (c_Fi_init l kk3) ⟨va_cnB 0 htb (x_goodT mw_47) rfl rfl rfl (hN.1 _ nf_45) (htb _ mw_3) (by decide +kernel) ⟨Nat.le_of_ble_eq_true rfl, Nat.le_of_ble_eq_true rfl⟩, rfl, htb _ mw_46⟩ (x_preS hK hN) rfl rfl hl.1 rfl (lv_room (Nat.le_of_ble_eq_true rfl)) d_Bd_init_42 ⟨Nat.le_of_ble_eq_true rfl, Nat.le_of_ble_eq_true rfl⟩) hL (fun q hq => Or.inr (hq.elim (fun e => by rw [e]; omega) (fun e => x_le (by rw [k3z, zz3]; omega) e))) (fun Hb3 locs hP hL => ?_)
  refine W.eq (g2 := F0 m 45 ls [.ref (z + 6), .ref a]) rfl ?_
  obtain ⟨m3, mz3, mo3⟩ := hP
  rw [show Ha3.size = z + 7 by rw [k3z, zz3]] at m3
  have h2a := h2a.kept (mo3 a (by rw [k3z]; omega) (by omega))
  refine x_putF (F := fun q : Nat => q = a ∨ z ≤ q) (ci := 7) (v := .ref (z + 6)) (ty := .object "BreakingDisk$Files") (T := T_Bd) hx hb htb u_Bd t_Bd t_Bd_ok n_Bd hown hK h2a hL (Or.inl rfl) rfl 3 (by decide) (htb _ mw_88) (fun _ h9 => h9) rfl hin rfl (by decide +kernel) rfl rfl (Nat.le_of_ble_eq_true rfl) d_Bd_init_45 (fun Hc3 locs h3a hc4 hL => ?_)
  have h3a : va_at D x_cl (a, .inr (7, [.ref z, .ref (z + 2), .ref (z + 4), .ref (z + 6), .null, .null, .int 0])) Hc3 := h3a
  have m3 := m3.kept (hc4.2 _ (by omega)) (hc4.2 _ (by omega))
  have st3 := x_stage k3z k3o mz3 (fun q h1 h2 => mo3 q h1 (fun e => h2 (by rw [zz3]; exact e))) hc4
  have zz4 : Hc3.size = z + 8 := by rw [st3.1, zz3]
  clear mz3 k3z an3
  refine lv_aload_n hx hb d_Bd_init_48 rfl (lv_at hl 0 rfl) ?_
  refine x_new (ci := 6) (fs := [.null, .int 0]) (T := T_Jo) (N := 2) hx hb htb u_Jo t_Jo t_Jo_ok hown (htb _ mw_59) (htb _ mw_60) (htb _ mw_4) hK rfl df_Jo (Nat.le_of_ble_eq_true rfl) (Nat.le_of_ble_eq_true rfl) d_Bd_init_49 (fun Ha4 k4 k4z k4o => ?_)
  rw [zz4]
  have kk4 := k4
  rw [zz4] at kk4
  have an4 : a < Hc3.size := by rw [zz4]; omega
  have h3a := h3a.kept (k4o a an4)
  refine lv_dup hx hb d_Bd_init_52 rfl ?_
  refine x_call (F := fun q : Nat => q = a ∨ z ≤ q) (va_runIN (As := []) (rest := [.ref (z + 8), .ref a]) ⟨hx, hb, hml, hown, htb⟩ (c_Jo_init l kk4) ⟨va_cnB 0 htb (x_goodT mw_63) rfl rfl rfl (hN.1 _ nf_61) (htb _ mw_4) (by decide +kernel) ⟨Nat.le_of_ble_eq_true rfl, Nat.le_of_ble_eq_true rfl⟩, rfl, htb _ mw_62⟩ (x_preS hK hN) rfl rfl hl.1 rfl (lv_room (Nat.le_of_ble_eq_true rfl)) d_Bd_init_53 ⟨Nat.le_of_ble_eq_true rfl, Nat.le_of_ble_eq_true rfl⟩) hL (fun q hq => Or.inr (hq.elim (fun e => by rw [e]; omega) (fun e => x_le (by rw [k4z, zz4]; omega) e))) (fun Hb4 locs hP hL => ?_)
  refine W.eq (g2 := F0 m 56 ls [.ref (z + 8), .ref a]) rfl ?_
  obtain ⟨m4, mz4, mo4⟩ := hP
  rw [show Ha4.size = z + 9 by rw [k4z, zz4]] at m4
  have h3a := h3a.kept (mo4 a (by rw [k4z]; omega) (by omega))
  refine x_putF (F := fun q : Nat => q = a ∨ z ≤ q) (ci := 7) (v := .ref (z + 8)) (ty := .object "BreakingDisk$Journal") (T := T_Bd) hx hb htb u_Bd t_Bd t_Bd_ok n_Bd hown hK h3a hL (Or.inl rfl) rfl 4 (by decide) (htb _ mw_89) (fun _ h9 => h9) rfl hin rfl (by decide +kernel) rfl rfl (Nat.le_of_ble_eq_true rfl) d_Bd_init_56 (fun Hc4 locs h4a hc5 hL => ?_)
  have h4a : va_at D x_cl (a, .inr (7, [.ref z, .ref (z + 2), .ref (z + 4), .ref (z + 6), .ref (z + 8), .null, .int 0])) Hc4 := h4a
  have m4 := m4.kept (hc5.2 _ (by omega)) (hc5.2 _ (by omega))
  have st4 := x_stage k4z k4o mz4 (fun q h1 h2 => mo4 q h1 (fun e => h2 (by rw [zz4]; exact e))) hc5
  have zz5 : Hc4.size = z + 10 := by rw [st4.1, zz4]
  clear mz4 k4z an4
  refine lv_aload_n hx hb d_Bd_init_59 rfl (lv_at hl 0 rfl) ?_
  refine x_new (ci := 0) (fs := [.null]) (T := T_By) (N := 1) hx hb htb u_By t_By t_By_ok hown (htb _ mw_75) (htb _ mw_76) (htb _ mw_5) hK rfl df_By (Nat.le_of_ble_eq_true rfl) (Nat.le_of_ble_eq_true rfl) d_Bd_init_60 (fun Hd k5 k5z k5o => ?_)
  rw [zz5]
  rw [zz5] at k5 k5z k5o
  have h4a := h4a.kept (k5o a (by omega))
  refine lv_dup hx hb d_Bd_init_63 rfl ?_
  refine lv_iconst (v := 0) hx hb d_Bd_init_64 (by decide) ?_
  refine x_newa (atype := .byte) hx hb (htb _ mw_42) (ty := .byte) rfl hK 0 rfl (fun C q => by cases q) (N' := 0) (a0 := (0, .inl (fun _ => 0))) rfl (by decide) (by decide) (by decide) (Nat.le_of_ble_eq_true rfl) (Nat.le_of_ble_eq_true rfl) d_Bd_init_65 (fun He k6 k6z k6o => ?_)
  rw [k5z]
  rw [k5z] at k6 k6z k6o
  have h4a := h4a.kept (k6o a (by omega))
  have k5 := k5.kept (k6o (z + 10) (by omega))
  refine x_call (F := fun q : Nat => q = a ∨ z ≤ q) (va_runI (As := [.ref (z + 10 + 1)]) (rest := [.ref (z + 10), .ref a]) ⟨hx, hb, hml, hown, htb⟩ (c_By_init l (r := z + 10 + 1) k5) (x_cI 1 htb mw_77 mw_5 mw_79 mw_78 rfl rfl rfl (by decide +kernel) ⟨Nat.le_of_ble_eq_true rfl, Nat.le_of_ble_eq_true rfl⟩) (x_preS hK hN) rfl rfl hl.1 rfl (lv_room (Nat.le_of_ble_eq_true rfl)) d_Bd_init_67 ⟨Nat.le_of_ble_eq_true rfl, Nat.le_of_ble_eq_true rfl⟩) hL (fun q hq => Or.inr (by rw [hq]; omega)) (fun Hf locs hP hL => ?_)
  refine W.eq (g2 := F0 m 70 ls [.ref (z + 10), .ref a]) rfl ?_
  obtain ⟨k7, hb7⟩ := hP
  have h4a := hb7.at h4a (by omega)
  have k6 := hb7.at k6 (by omega)
  refine x_put (F := fun q : Nat => q = a ∨ z ≤ q) (ci := 7) (v := .ref (z + 10)) (ty := .object "BreakingDisk$Bytes") (T := T_Bd) hx hb htb u_Bd t_Bd t_Bd_ok n_Bd hown hK h4a hL (Or.inl rfl) rfl 5 (by decide) (htb _ mw_90) (fun _ h9 => h9) rfl (by decide +kernel) rfl rfl (Nat.le_of_ble_eq_true rfl) d_Bd_init_70 (fun Hg locs h8a hc6 hL => ?_)
  have h8a : va_at D x_cl (a, .inr (7, [.ref z, .ref (z + 2), .ref (z + 4), .ref (z + 6), .ref (z + 8), .ref (z + 10), .int 0])) Hg := h8a
  have k6 := hc6.at k6 (by omega)
  have k7 := hc6.at k7 (by omega)
  refine lv_aload_n hx hb d_Bd_init_73 rfl (lv_at hl 0 rfl) ?_
  refine lv_iconst (v := 0) hx hb d_Bd_init_74 (by decide) ?_
  refine x_put (F := fun q : Nat => q = a ∨ z ≤ q) (ci := 7) (v := .int 0) (ty := .int) (T := T_Bd) hx hb htb u_Bd t_Bd t_Bd_ok n_Bd hown hK h8a hL (Or.inl rfl) rfl 6 (by decide) (htb _ mw_91) (fun _ h9 => h9) rfl (by decide +kernel) rfl rfl (Nat.le_of_ble_eq_true rfl) d_Bd_init_75 (fun Hh locs h9a hc7 hL => ?_)
  have h9a : va_at D x_cl (a, .inr (7, [.ref z, .ref (z + 2), .ref (z + 4), .ref (z + 6), .ref (z + 8), .ref (z + 10), .int 0])) Hh := h9a
  have k6 := hc7.at k6 (by omega)
  have k7 := hc7.at k7 (by omega)
  have hzh : Hh.size = z + 12 := by rw [hc7.1, hc6.1, hb7.1, k6z]
  have cc4 : ∀ q : Nat, q < z + 10 → q ≠ a → Hh[q]? = Hc4[q]? := fun q hq hqa => by rw [hc7.2 q hqa, hc6.2 q hqa, hb7.2 q (by omega), k6o q (by omega), k5o q hq]
  have cc3 : ∀ q : Nat, q < z + 8 → q ≠ a → Hh[q]? = Hc3[q]? := fun q hq hqa => (cc4 q (by omega) hqa).trans (st4.2 q (by rw [zz4]; omega) hqa)
  have cc2 : ∀ q : Nat, q < z + 6 → q ≠ a → Hh[q]? = Hc2[q]? := fun q hq hqa => (cc3 q (by omega) hqa).trans (st3.2 q (by rw [zz3]; omega) hqa)
  have cc1 : ∀ q : Nat, q < z + 4 → q ≠ a → Hh[q]? = Hc1[q]? := fun q hq hqa => (cc2 q (by omega) hqa).trans (st2.2 q (by rw [zz2]; omega) hqa)
  have cc0 : ∀ q : Nat, q < z + 2 → q ≠ a → Hh[q]? = Hc0[q]? := fun q hq hqa => (cc1 q (by omega) hqa).trans (st1.2 q (by rw [zz1]; omega) hqa)
  have m0 := m0.kept (cc0 _ (by omega) (by omega)) (cc0 _ (by omega) (by omega))
  have m1 := m1.kept (cc1 _ (by omega) (by omega)) (cc1 _ (by omega) (by omega))
  have m2 := m2.kept (cc2 _ (by omega) (by omega)) (cc2 _ (by omega) (by omega))
  have m3 := m3.kept (cc3 _ (by omega) (by omega)) (cc3 _ (by omega) (by omega))
  have m4 := m4.kept (cc4 _ (by omega) (by omega)) (cc4 _ (by omega) (by omega))
  have hM10 : ¬ g_Mx a z (z + 10) := fun q => q.elim (fun e => by omega) (fun e => e.elim (fun e => by omega) (fun e => by omega))
  have hM11 : ¬ g_Mx a z (z + 10 + 1) := fun q => q.elim (fun e => by omega) (fun e => e.elim (fun e => by omega) (fun e => by omega))
  exact x_vret hx hb hr hlocks ⟨fun H2 hz2 hq2 => ⟨z + 10, [], [], [], [], h9a.kept (hq2 _ (by omega)), m0.kept (hq2 _ (by omega)) (hq2 _ (by omega)), ⟨z + 10 + 1, k7.kept (hq2 _ (by omega)), k6.kept (hq2 _ (by omega)), hM10, hM11, (fun u hu => by cases hu), Nat.zero_le _⟩, ⟨m1.kept (hq2 _ (by omega)) (hq2 _ (by omega)), g_fs.nil⟩, ⟨m2.kept (hq2 _ (by omega)) (hq2 _ (by omega)), g_fs.nil⟩, ⟨m3.kept (hq2 _ (by omega)) (hq2 _ (by omega)), g_fs.nil⟩, ⟨m4.kept (hq2 _ (by omega)) (hq2 _ (by omega)), g_os.nil⟩, has, hz2⟩, hzh, fun q hq hqa => (cc0 q (by omega) hqa).trans (st0.2 q (by rw [zz0]; exact hq) hqa)⟩ hL (Nat.le_refl _) (Nat.le_refl _) d_Bd_init_78
end
section
/-! THE DISK: how its parts change; its methods that answer -/
theorem g_M.in {P : Nat → Prop} {a z : Nat} {i : Nat} (h : i < 10) (hP : ∀ q, g_M a z q → P q := by first | exact fun _ h => h | exact fun _ h => h.elim Or.inl (fun h => Or.inr (Or.inl h))) : P (z + i) := hP _ (Or.inr ⟨by omega, by omega⟩)
theorem g_D.lt {D : va_G} {A : Nat → ClassId} {a z : Nat} {S : g_S} {H : Heap} (h : g_D D A a z S H) : a < z ∧ z + 29 ≤ H.size := by
  obtain ⟨pa, as, bs, cs, ds, -, -, -, -, -, -, -, h1, h2⟩ := h
  exact ⟨h1, h2⟩
theorem g_D.new {D : va_G} {A : Nat → ClassId} {a z : Nat} {S : g_S} {H : Heap} (h : g_D D A a z S H) : ∀ q, H.size ≤ q → ¬ g_Mx a z q := fun q hq hM => by
  have := h.lt
  rcases hM with e | e | e <;> omega
theorem g_D.ext {D : va_G} {A : Nat → ClassId} {a z : Nat} {S : g_S} {H H1 : Heap} (h : g_D D A a z S H) (hz : H.size ≤ H1.size) (hq : ∀ q : Nat, q < H.size → H1[q]? = H[q]?) : g_D D A a z S H1 := by
  obtain ⟨pa, as, bs, cs, ds, h1, h2, h3, ⟨h4, h4s⟩, ⟨h5, h5s⟩, ⟨h6, h6s⟩, ⟨h7, h7s⟩, h8, h9⟩ := h
  have hk : g_K (g_M a z) H H1 := ⟨hz, fun q h _ => hq q h⟩
  exact ⟨pa, as, bs, cs, ds, h1.kept (hq _ (by omega)), h2.kept (hq _ (by omega)) (hq _ (by omega)), h3.kept hk, ⟨h4.kept (hq _ (by omega)) (hq _ (by omega)), h4s.kept hk⟩, ⟨h5.kept (hq _ (by omega)) (hq _ (by omega)), h5s.kept hk⟩, ⟨h6.kept (hq _ (by omega)) (hq _ (by omega)), h6s.kept hk⟩, ⟨h7.kept (hq _ (by omega)) (hq _ (by omega)), h7s.kept hk⟩, h8, Nat.le_trans h9 hz⟩
theorem g_D.tape {D : va_G} {A : Nat → ClassId} {a z : Nat} {S : g_S} {H H1 : Heap} (h : g_D D A a z S H) (hb : x_but2 (z) (z + 1) H H1) {v : List Nat} (n : g_tp D A z (z + 1) v H1) : g_D D A a z (v, S.2.1, S.2.2.1, S.2.2.2.1, S.2.2.2.2.1, S.2.2.2.2.2.1, S.2.2.2.2.2.2) H1 := by
  obtain ⟨pa, as, bs, cs, ds, h1, h2, h3, ⟨h4, h4s⟩, ⟨h5, h5s⟩, ⟨h6, h6s⟩, ⟨h7, h7s⟩, h8, h9⟩ := h
  have hq := hb.2
  have hk : g_K (g_M a z) H H1 := hb.K (g_M.in (i := 0) (by decide)) (g_M.in (by decide))
  exact ⟨pa, as, bs, cs, ds, h1.kept (hq _ (by omega) (by omega)), n, h3.kept hk, ⟨h4.kept (hq _ (by omega) (by omega)) (hq _ (by omega) (by omega)), h4s.kept hk⟩, ⟨h5.kept (hq _ (by omega) (by omega)) (hq _ (by omega) (by omega)), h5s.kept hk⟩, ⟨h6.kept (hq _ (by omega) (by omega)) (hq _ (by omega) (by omega)), h6s.kept hk⟩, ⟨h7.kept (hq _ (by omega) (by omega)) (hq _ (by omega) (by omega)), h7s.kept hk⟩, h8, by rw [hb.1]; exact h9⟩
theorem g_D.now {D : va_G} {A : Nat → ClassId} {a z : Nat} {S : g_S} {H H1 : Heap} (h : g_D D A a z S H) (hb : x_but2 (z + 2) (z + 3) H H1) {v : List g_F} {xs : List Nat} (n : g_fr D A 5 1 60 (z + 2) (z + 3) xs H1) (ns : g_fs D A (g_Mx a z) xs v H1) : g_D D A a z (S.1, S.2.1, v, S.2.2.2.1, S.2.2.2.2.1, S.2.2.2.2.2.1, S.2.2.2.2.2.2) H1 := by
  obtain ⟨pa, as, bs, cs, ds, h1, h2, h3, ⟨h4, h4s⟩, ⟨h5, h5s⟩, ⟨h6, h6s⟩, ⟨h7, h7s⟩, h8, h9⟩ := h
  have hq := hb.2
  have hk : g_K (g_M a z) H H1 := hb.K (g_M.in (i := 2) (by decide)) (g_M.in (by decide))
  exact ⟨pa, xs, bs, cs, ds, h1.kept (hq _ (by omega) (by omega)), h2.kept (hq _ (by omega) (by omega)) (hq _ (by omega) (by omega)), h3.kept hk, ⟨n, ns⟩, ⟨h5.kept (hq _ (by omega) (by omega)) (hq _ (by omega) (by omega)), h5s.kept hk⟩, ⟨h6.kept (hq _ (by omega) (by omega)) (hq _ (by omega) (by omega)), h6s.kept hk⟩, ⟨h7.kept (hq _ (by omega) (by omega)) (hq _ (by omega) (by omega)), h7s.kept hk⟩, h8, by rw [hb.1]; exact h9⟩
theorem g_D.kept {D : va_G} {A : Nat → ClassId} {a z : Nat} {S : g_S} {H H1 : Heap} (h : g_D D A a z S H) (hb : x_but2 (z + 4) (z + 5) H H1) {v : List g_F} {xs : List Nat} (n : g_fr D A 5 1 60 (z + 4) (z + 5) xs H1) (ns : g_fs D A (g_Mx a z) xs v H1) : g_D D A a z (S.1, S.2.1, S.2.2.1, v, S.2.2.2.2.1, S.2.2.2.2.2.1, S.2.2.2.2.2.2) H1 := by
  obtain ⟨pa, as, bs, cs, ds, h1, h2, h3, ⟨h4, h4s⟩, ⟨h5, h5s⟩, ⟨h6, h6s⟩, ⟨h7, h7s⟩, h8, h9⟩ := h
  have hq := hb.2
  have hk : g_K (g_M a z) H H1 := hb.K (g_M.in (i := 4) (by decide)) (g_M.in (by decide))
  exact ⟨pa, as, xs, cs, ds, h1.kept (hq _ (by omega) (by omega)), h2.kept (hq _ (by omega) (by omega)) (hq _ (by omega) (by omega)), h3.kept hk, ⟨h4.kept (hq _ (by omega) (by omega)) (hq _ (by omega) (by omega)), h4s.kept hk⟩, ⟨n, ns⟩, ⟨h6.kept (hq _ (by omega) (by omega)) (hq _ (by omega) (by omega)), h6s.kept hk⟩, ⟨h7.kept (hq _ (by omega) (by omega)) (hq _ (by omega) (by omega)), h7s.kept hk⟩, h8, by rw [hb.1]; exact h9⟩
theorem g_D.told {D : va_G} {A : Nat → ClassId} {a z : Nat} {S : g_S} {H H1 : Heap} (h : g_D D A a z S H) (hb : x_but2 (z + 6) (z + 7) H H1) {v : List g_F} {xs : List Nat} (n : g_fr D A 5 1 60 (z + 6) (z + 7) xs H1) (ns : g_fs D A (g_Mx a z) xs v H1) : g_D D A a z (S.1, S.2.1, S.2.2.1, S.2.2.2.1, v, S.2.2.2.2.2.1, S.2.2.2.2.2.2) H1 := by
  obtain ⟨pa, as, bs, cs, ds, h1, h2, h3, ⟨h4, h4s⟩, ⟨h5, h5s⟩, ⟨h6, h6s⟩, ⟨h7, h7s⟩, h8, h9⟩ := h
  have hq := hb.2
  have hk : g_K (g_M a z) H H1 := hb.K (g_M.in (i := 6) (by decide)) (g_M.in (by decide))
  exact ⟨pa, as, bs, xs, ds, h1.kept (hq _ (by omega) (by omega)), h2.kept (hq _ (by omega) (by omega)) (hq _ (by omega) (by omega)), h3.kept hk, ⟨h4.kept (hq _ (by omega) (by omega)) (hq _ (by omega) (by omega)), h4s.kept hk⟩, ⟨h5.kept (hq _ (by omega) (by omega)) (hq _ (by omega) (by omega)), h5s.kept hk⟩, ⟨n, ns⟩, ⟨h7.kept (hq _ (by omega) (by omega)) (hq _ (by omega) (by omega)), h7s.kept hk⟩, h8, by rw [hb.1]; exact h9⟩
theorem g_D.ops {D : va_G} {A : Nat → ClassId} {a z : Nat} {S : g_S} {H H1 : Heap} (h : g_D D A a z S H) (hb : x_but2 (z + 8) (z + 9) H H1) {v : List g_O} {xs : List Nat} (n : g_fr D A 6 2 200 (z + 8) (z + 9) xs H1) (ns : g_os D A (g_Mx a z) xs v H1) : g_D D A a z (S.1, S.2.1, S.2.2.1, S.2.2.2.1, S.2.2.2.2.1, v, S.2.2.2.2.2.2) H1 := by
  obtain ⟨pa, as, bs, cs, ds, h1, h2, h3, ⟨h4, h4s⟩, ⟨h5, h5s⟩, ⟨h6, h6s⟩, ⟨h7, h7s⟩, h8, h9⟩ := h
  have hq := hb.2
  have hk : g_K (g_M a z) H H1 := hb.K (g_M.in (i := 8) (by decide)) (g_M.in (by decide))
  exact ⟨pa, as, bs, cs, xs, h1.kept (hq _ (by omega) (by omega)), h2.kept (hq _ (by omega) (by omega)) (hq _ (by omega) (by omega)), h3.kept hk, ⟨h4.kept (hq _ (by omega) (by omega)) (hq _ (by omega) (by omega)), h4s.kept hk⟩, ⟨h5.kept (hq _ (by omega) (by omega)) (hq _ (by omega) (by omega)), h5s.kept hk⟩, ⟨h6.kept (hq _ (by omega) (by omega)) (hq _ (by omega) (by omega)), h6s.kept hk⟩, ⟨n, ns⟩, h8, by rw [hb.1]; exact h9⟩
theorem g_D.obj {D : va_G} {A : Nat → ClassId} {a z : Nat} {S : g_S} {H H1 : Heap} (h : g_D D A a z S H) (hb : x_but a H H1) {pa n : Nat} {ps : List Nat} (n1 : va_at D x_cl (a, .inr (7, [.ref z, .ref (z + 2), .ref (z + 4), .ref (z + 6), .ref (z + 8), .ref pa, .int (nI n)])) H1) (n2 : g_bs D A (g_Mx a z) pa ps H1) : g_D D A a z (S.1, ps, S.2.2.1, S.2.2.2.1, S.2.2.2.2.1, S.2.2.2.2.2.1, n) H1 := by
  obtain ⟨_, as, bs, cs, ds, h1, h2, h3, ⟨h4, h4s⟩, ⟨h5, h5s⟩, ⟨h6, h6s⟩, ⟨h7, h7s⟩, h8, h9⟩ := h
  have hq := hb.2
  have hk : g_K (g_M a z) H H1 := g_K.but hb (Or.inl rfl)
  exact ⟨pa, as, bs, cs, ds, n1, h2.kept (hq _ (by omega)) (hq _ (by omega)), n2, ⟨h4.kept (hq _ (by omega)) (hq _ (by omega)), h4s.kept hk⟩, ⟨h5.kept (hq _ (by omega)) (hq _ (by omega)), h5s.kept hk⟩, ⟨h6.kept (hq _ (by omega)) (hq _ (by omega)), h6s.kept hk⟩, ⟨h7.kept (hq _ (by omega)) (hq _ (by omega)), h7s.kept hk⟩, h8, by rw [hb.1]; exact h9⟩
def g_get (fs : List g_F) (n : g_N) : Option g_F := (g_find fs n).bind (fun j => fs[j]?)
def g_sort (x : Int32) : Prop := ¬ x < 0 ∧ x < 7
set_option maxHeartbeats 4000000 in
set_option maxRecDepth 100000 in
theorem c_Bd_isSort (l : Launch) {D : va_G} {A : Nat → ClassId} {H0 : Heap} {x : Int32} (h : g_sort x) : Met l y_Bd_isSort w_Bd_isSort { frames := 0, cells := 0, slots := 0, locals := 0 } (x_Pc D A [.int x] H0) (x_Q (some (.int 1)) (fun H1 => H1 = H0)) 0 0 (fun _ => False) := by
  refine Met.ofW (cc := prog_1_method_14_code) (maxL := 1) (ret := (some .boolean)) (by decide) rfl ?_
  intro p e s m args below meth c s₁ B hml hv
  obtain ⟨rfl, hH, hK, hN⟩ := hv
  obtain ⟨hx, hb, hr, htb, hown, hlocks⟩ := x_start (wd := Cond.code y_Bd_isSort prog_1_method_14_code 1 (some .boolean)) B
  have hl := lv_entry ([.int x]) (n := 1) (Nat.le_of_ble_eq_true rfl)
  rw [lg_entry_eq]
  generalize (lg_sl ([.int x]) ++ List.replicate (1 - (lg_sl ([.int x])).length) Slot.unset).toArray = ls at hl ⊢
  have hl : lv_has ls 1 [(0, .int x)] := hl
  rw [hH]
  refine lv_iload_n hx hb d_Bd_isSort_0 rfl (lv_at hl 0 rfl) ?_
  refine lv_if_lt (tgt := 14) hx hb d_Bd_isSort_1 (by decide) (fun c9 => absurd c9 h.1) (fun _ => ?_)
  refine lv_iload_n hx hb d_Bd_isSort_4 rfl (lv_at hl 0 rfl) ?_
  refine lv_bipush (v := 7) hx hb d_Bd_isSort_5 (by decide) ?_
  refine lv_icmp_ge (tgt := 14) hx hb d_Bd_isSort_7 (by decide) (fun c9 => absurd c9 (Int32.not_le.mpr h.2)) (fun _ => ?_)
  refine lv_iconst (v := 1) hx hb d_Bd_isSort_10 (by decide) ?_
  refine lv_goto (tgt := 15) hx hb d_Bd_isSort_11 (by decide) ?_
  exact x_zret hx hb hr hlocks rfl (by decide) rfl (fun q hq => by cases hq) (Nat.le_refl _) (Nat.le_refl _) d_Bd_isSort_15
set_option maxHeartbeats 4000000 in
set_option maxRecDepth 100000 in
theorem c_Bd_isSortN (l : Launch) {D : va_G} {A : Nat → ClassId} {H0 : Heap} {x : Int32} (h : ¬ g_sort x) : Met l y_Bd_isSort w_Bd_isSort { frames := 0, cells := 0, slots := 0, locals := 0 } (x_Pc D A [.int x] H0) (x_Q (some (.int 0)) (fun H1 => H1 = H0)) 0 0 (fun _ => False) := by
  refine Met.ofW (cc := prog_1_method_14_code) (maxL := 1) (ret := (some .boolean)) (by decide) rfl ?_
  intro p e s m args below meth c s₁ B hml hv
  obtain ⟨rfl, hH, hK, hN⟩ := hv
  obtain ⟨hx, hb, hr, htb, hown, hlocks⟩ := x_start (wd := Cond.code y_Bd_isSort prog_1_method_14_code 1 (some .boolean)) B
  have hl := lv_entry ([.int x]) (n := 1) (Nat.le_of_ble_eq_true rfl)
  rw [lg_entry_eq]
  generalize (lg_sl ([.int x]) ++ List.replicate (1 - (lg_sl ([.int x])).length) Slot.unset).toArray = ls at hl ⊢
  have hl : lv_has ls 1 [(0, .int x)] := hl
  rw [hH]
  refine lv_iload_n hx hb d_Bd_isSort_0 rfl (lv_at hl 0 rfl) ?_
  refine lv_if_lt (tgt := 14) hx hb d_Bd_isSort_1 (by decide) (fun c1 => ?_) (fun c1 => ?_)
  · refine lv_iconst (v := 0) hx hb d_Bd_isSort_14 (by decide) ?_
    exact x_zret hx hb hr hlocks rfl (by decide) rfl (fun q hq => by cases hq) (Nat.le_refl _) (Nat.le_refl _) d_Bd_isSort_15
  · refine lv_iload_n hx hb d_Bd_isSort_4 rfl (lv_at hl 0 rfl) ?_
    refine lv_bipush (v := 7) hx hb d_Bd_isSort_5 (by decide) ?_
    refine lv_icmp_ge (tgt := 14) hx hb d_Bd_isSort_7 (by decide) (fun _ => ?_) (fun c9 => absurd (Int32.not_lt.mp fun q => h ⟨c1, q⟩) c9)
    refine lv_iconst (v := 0) hx hb d_Bd_isSort_14 (by decide) ?_
    exact x_zret hx hb hr hlocks rfl (by decide) rfl (fun q hq => by cases hq) (Nat.le_refl _) (Nat.le_refl _) d_Bd_isSort_15
set_option maxHeartbeats 4000000 in
set_option maxRecDepth 100000 in
theorem c_Bd_nameOf (l : Launch) {D : va_G} {A : Nat → ClassId} {H0 : Heap} {a z : Nat} {S : g_S} (hd : g_D D A a z S H0) (x y : Int32) : Met l y_Bd_nameOf w_Bd_nameOf { frames := 2, cells := 1, slots := 3, locals := 35 } (x_Pc D A [.ref a, .int x, .int y] H0) (x_Q (some (.ref H0.size)) (fun H1 => g_nm D A (g_Mx a z) H0.size (x, y, S.2.1) H1 ∧ H1.size = H0.size + 1 ∧ ∀ q : Nat, q < H0.size → H1[q]? = H0[q]?)) 1 3 (fun q => H0.size ≤ q) := by
  refine Met.ofW (cc := prog_1_method_18_code) (maxL := 3) (ret := (some (.object "BreakingDisk$Name"))) (by decide) rfl ?_
  intro p e s m args below meth c s₁ B hml hv
  obtain ⟨rfl, hH, hK, hN⟩ := hv
  obtain ⟨hx, hb, hr, htb, hown, hlocks⟩ := x_start (wd := Cond.code y_Bd_nameOf prog_1_method_18_code 3 (some (.object "BreakingDisk$Name"))) B
  have hl := lv_entry ([.ref a, .int x, .int y]) (n := 3) (Nat.le_of_ble_eq_true rfl)
  rw [lg_entry_eq]
  generalize (lg_sl ([.ref a, .int x, .int y]) ++ List.replicate (3 - (lg_sl ([.ref a, .int x, .int y])).length) Slot.unset).toArray = ls at hl ⊢
  have hl : lv_has ls 3 [(0, .ref a), (1, .int x), (2, .int y)] := hl
  rw [hH]
  obtain ⟨pa, as, bs, cs, ds, h1, h2, h3, ⟨h4, h4s⟩, ⟨h5, h5s⟩, ⟨h6, h6s⟩, ⟨h7, h7s⟩, h8, h9⟩ := id hd
  have hL : ∀ q ∈ ([] : List Loc), (fun q : Nat => H0.size ≤ q) q.base := fun q hq => by cases hq
  refine x_new (ci := 1) (fs := [.int 0, .int 0, .null]) (T := T_Nm) (N := 3) hx hb htb u_Nm t_Nm t_Nm_ok hown (htb _ mw_135) (htb _ mw_136) (htb _ mw_15) hK rfl df_Nm (Nat.le_of_ble_eq_true rfl) (Nat.le_of_ble_eq_true rfl) d_Bd_nameOf_0 (fun H1 k1 k1z k1o => ?_)
  have q1 := h1.kept (k1o a (by omega))
  refine lv_dup hx hb d_Bd_nameOf_3 rfl ?_
  refine lv_iload_n hx hb d_Bd_nameOf_4 rfl (lv_at hl 1 rfl) ?_
  refine lv_iload_n hx hb d_Bd_nameOf_5 rfl (lv_at hl 2 rfl) ?_
  refine lv_aload_n hx hb d_Bd_nameOf_6 rfl (lv_at hl 0 rfl) ?_
  refine x_get (ci := 7) (T := T_Bd) hx hb htb u_Bd hown hK q1 rfl 5 (by decide) (htb _ mw_90) (fun _ h9 => h9) (v := .ref pa) rfl d_Bd_nameOf_7 ?_
  refine x_call (F := fun q : Nat => H0.size ≤ q) (va_runI (As := [.int x, .int y, .ref pa]) (rest := [.ref H0.size]) ⟨hx, hb, hml, hown, htb⟩ (c_Nm_init l k1) (x_cI 3 htb mw_137 mw_15 mw_139 mw_138 rfl rfl rfl (by decide +kernel) ⟨Nat.le_of_ble_eq_true rfl, Nat.le_of_ble_eq_true rfl⟩) (x_preS hK hN) rfl rfl hl.1 rfl (lv_room (Nat.le_of_ble_eq_true rfl)) d_Bd_nameOf_10 ⟨Nat.le_of_ble_eq_true rfl, Nat.le_of_ble_eq_true rfl⟩) hL (fun q hq => by rw [hq]; exact Nat.le_refl _) (fun H2 locs hP hL => ?_)
  refine W.eq (g2 := F0 m 13 ls [.ref H0.size]) rfl ?_
  obtain ⟨k3, hb3⟩ := hP
  have ho : ∀ q : Nat, q < H0.size → H2[q]? = H0[q]? := fun q hq => by rw [hb3.2 q (by omega), k1o q hq]
  exact x_aret hx hb hr (Or.inl ⟨_, rfl⟩) (Or.inr ⟨_, rfl⟩) hlocks ⟨⟨pa, k3, hd.new _ (Nat.le_refl _), h3.kept ⟨by rw [hb3.1]; omega, fun q hq _ => ho q hq⟩⟩, by rw [hb3.1, k1z], ho⟩ hL (Nat.le_refl _) (Nat.le_refl _) d_Bd_nameOf_13
set_option maxHeartbeats 4000000 in
set_option maxRecDepth 100000 in
theorem c_Bd_put (l : Launch) {D : va_G} {A : Nat → ClassId} {H0 : Heap} {a z : Nat} {S : g_S} (hd : g_D D A a z S H0) (v : Int64) {n : Nat} (hn : n ≤ 8) (hr2 : S.1.length + n ≤ 400) : Met l y_Bd_put w_Bd_put { frames := 1, cells := 0, slots := 0, locals := 24 } (x_Pc D A [.ref a, .long v, .int (nI n)] H0) (x_Q (some (.int 1)) (fun H1 => g_D D A a z (S.1 ++ g_puts v n 0, S.2.1, S.2.2.1, S.2.2.2.1, S.2.2.2.2.1, S.2.2.2.2.2.1, S.2.2.2.2.2.2) H1 ∧ g_K (g_M a z) H0 H1)) 0 0 (x_fr (g_Mx a z) H0) := by
  refine Met.ofW (cc := prog_1_method_2_code) (maxL := 4) (ret := (some .boolean)) (by decide) rfl ?_
  intro p e s m args below meth c s₁ B hml hv
  obtain ⟨rfl, hH, hK, hN⟩ := hv
  obtain ⟨hx, hb, hr, htb, hown, hlocks⟩ := x_start (wd := Cond.code y_Bd_put prog_1_method_2_code 4 (some .boolean)) B
  have hl := lv_entry ([.ref a, .long v, .int (nI n)]) (n := 4) (Nat.le_of_ble_eq_true rfl)
  rw [lg_entry_eq]
  generalize (lg_sl ([.ref a, .long v, .int (nI n)]) ++ List.replicate (4 - (lg_sl ([.ref a, .long v, .int (nI n)])).length) Slot.unset).toArray = ls at hl ⊢
  have hl : lv_has ls 4 [(0, .ref a), (1, .long v), (3, .int (nI n))] := hl
  rw [hH]
  obtain ⟨pa, as, bs, cs, ds, h1, h2, h3, ⟨h4, h4s⟩, ⟨h5, h5s⟩, ⟨h6, h6s⟩, ⟨h7, h7s⟩, h8, h9⟩ := id hd
  have hL : ∀ q ∈ ([] : List Loc), x_fr (g_Mx a z) H0 q.base := fun q hq => by cases hq
  obtain ⟨f, t1, -⟩ := id h2
  refine lv_aload_n hx hb d_Bd_put_0 rfl (lv_at hl 0 rfl) ?_
  refine x_get (ci := 7) (T := T_Bd) hx hb htb u_Bd hown hK h1 rfl 0 (by decide) (htb _ mw_85) (fun _ h9 => h9) (v := .ref z) rfl d_Bd_put_1 ?_
  refine lv_lload_n hx hb d_Bd_put_4 rfl (lv_at hl 1 rfl) ?_
  refine lv_iload_n hx hb d_Bd_put_5 rfl (lv_at hl 2 rfl) ?_
  refine x_call (F := x_fr (g_Mx a z) H0) (va_runV (As := [.long v, .int (nI n)]) (rest := []) ⟨hx, hb, hml, hown, htb⟩ (c_Tp_append l h2 v hn hr2 (by omega)) (x_cV 2 htb mw_111 mw_2 mw_114 mw_112 mw_113 rfl rfl (by decide +kernel) ⟨Nat.le_of_ble_eq_true rfl, Nat.le_of_ble_eq_true rfl⟩) (x_preV hK hN t1 rfl) rfl rfl hl.1 rfl (lv_room (Nat.le_of_ble_eq_true rfl)) d_Bd_put_6 ⟨Nat.le_of_ble_eq_true rfl, Nat.le_of_ble_eq_true rfl⟩) hL (fun q hq => Or.inl (hq.elim (fun e => e ▸ g_M.in (i := 0) (by decide)) (fun e => e ▸ g_M.in (by decide)))) (fun H1 locs hP hL => ?_)
  refine W.eq (g2 := F0 m 9 ls [.int 1]) rfl ?_
  obtain ⟨q1, q2⟩ := hP
  exact x_zret hx hb hr hlocks rfl (by decide) ⟨hd.tape q2 q1, q2.K (g_M.in (i := 0) (by decide)) (g_M.in (by decide))⟩ hL (Nat.le_refl _) (Nat.le_refl _) d_Bd_put_9
set_option maxHeartbeats 4000000 in
set_option maxRecDepth 100000 in
theorem c_Bd_putN (l : Launch) {D : va_G} {A : Nat → ClassId} {H0 : Heap} {a z : Nat} {S : g_S} (hd : g_D D A a z S H0) (v : Int64) {x : Int32} (hbad : x < 0 ∨ 8 < x ∨ nI (400 - S.1.length) < x) : Met l y_Bd_put w_Bd_put { frames := 1, cells := 0, slots := 0, locals := 24 } (x_Pc D A [.ref a, .long v, .int x] H0) (x_Q (some (.int 0)) (fun H1 => H1 = H0)) 0 0 (fun _ => False) := by
  refine Met.ofW (cc := prog_1_method_2_code) (maxL := 4) (ret := (some .boolean)) (by decide) rfl ?_
  intro p e s m args below meth c s₁ B hml hv
  obtain ⟨rfl, hH, hK, hN⟩ := hv
  obtain ⟨hx, hb, hr, htb, hown, hlocks⟩ := x_start (wd := Cond.code y_Bd_put prog_1_method_2_code 4 (some .boolean)) B
  have hl := lv_entry ([.ref a, .long v, .int x]) (n := 4) (Nat.le_of_ble_eq_true rfl)
  rw [lg_entry_eq]
  generalize (lg_sl ([.ref a, .long v, .int x]) ++ List.replicate (4 - (lg_sl ([.ref a, .long v, .int x])).length) Slot.unset).toArray = ls at hl ⊢
  have hl : lv_has ls 4 [(0, .ref a), (1, .long v), (3, .int x)] := hl
  rw [hH]
  obtain ⟨pa, as, bs, cs, ds, h1, h2, h3, ⟨h4, h4s⟩, ⟨h5, h5s⟩, ⟨h6, h6s⟩, ⟨h7, h7s⟩, h8, h9⟩ := id hd
  obtain ⟨f, t1, -⟩ := id h2
  refine lv_aload_n hx hb d_Bd_put_0 rfl (lv_at hl 0 rfl) ?_
  refine x_get (ci := 7) (T := T_Bd) hx hb htb u_Bd hown hK h1 rfl 0 (by decide) (htb _ mw_85) (fun _ h9 => h9) (v := .ref z) rfl d_Bd_put_1 ?_
  refine lv_lload_n hx hb d_Bd_put_4 rfl (lv_at hl 1 rfl) ?_
  refine lv_iload_n hx hb d_Bd_put_5 rfl (lv_at hl 2 rfl) ?_
  refine x_callP (va_runV (As := [.long v, .int x]) (rest := []) ⟨hx, hb, hml, hown, htb⟩ (c_Tp_appendN l h2 v hbad) (x_cV 2 htb mw_111 mw_2 mw_114 mw_112 mw_113 rfl rfl (by decide +kernel) ⟨Nat.le_of_ble_eq_true rfl, Nat.le_of_ble_eq_true rfl⟩) (x_preV hK hN t1 rfl) rfl rfl hl.1 rfl (lv_room (Nat.le_of_ble_eq_true rfl)) d_Bd_put_6 ⟨Nat.le_of_ble_eq_true rfl, Nat.le_of_ble_eq_true rfl⟩) ?_
  refine W.eq (g2 := F0 m 9 ls [.int 0]) rfl ?_
  exact x_zret hx hb hr hlocks rfl (by decide) rfl (fun q hq => by cases hq) (Nat.le_refl _) (Nat.le_refl _) d_Bd_put_9
theorem g_get_some {fs : List g_F} {n : g_N} {j : Nat} {f : g_F} (h : g_find fs n = some j) (hf : fs[j]? = some f) : g_get fs n = some f := by
  unfold g_get
  rw [h]
  exact hf
theorem g_get_none {fs : List g_F} {n : g_N} (h : g_find fs n = none) : g_get fs n = none := by
  unfold g_get
  rw [h]
  rfl
def g_szv (o : Option g_F) : Int32 := match o with
  | some f => nI f.2.length
  | none => -1
def g_atv (o : Option g_F) (k : Int32) : Int32 := match o with
  | some f => g_at f.2 k
  | none => -1
set_option maxHeartbeats 4000000 in
set_option maxRecDepth 100000 in
theorem c_Bd_size (l : Launch) {D : va_G} {A : Nat → ClassId} {H0 : Heap} {a z : Nat} {S : g_S} (hd : g_D D A a z S H0) (x y : Int32) : Met l y_Bd_size w_Bd_size { frames := 4, cells := 1, slots := 3, locals := 88 } (x_Pc D A [.ref a, .int x, .int y] H0) (x_Q (some (.int (g_szv (g_get S.2.2.1 (x, y, S.2.1))))) (fun H1 => g_D D A a z S H1 ∧ g_K (g_M a z) H0 H1)) 1 3 (x_fr (g_Mx a z) H0) := by
  refine Met.ofW (cc := prog_1_method_9_code) (maxL := 4) (ret := (some .int)) (by decide) rfl ?_
  intro p e s m args below meth c s₁ B hml hv
  obtain ⟨rfl, hH, hK, hN⟩ := hv
  obtain ⟨hx, hb, hr, htb, hown, hlocks⟩ := x_start (wd := Cond.code y_Bd_size prog_1_method_9_code 4 (some .int)) B
  have hl := lv_entry ([.ref a, .int x, .int y]) (n := 4) (Nat.le_of_ble_eq_true rfl)
  rw [lg_entry_eq]
  generalize (lg_sl ([.ref a, .int x, .int y]) ++ List.replicate (4 - (lg_sl ([.ref a, .int x, .int y])).length) Slot.unset).toArray = ls at hl ⊢
  have hl : lv_has ls 4 [(0, .ref a), (1, .int x), (2, .int y)] := hl
  rw [hH]
  obtain ⟨pa, as, bs, cs, ds, h1, h2, h3, ⟨h4, h4s⟩, ⟨h5, h5s⟩, ⟨h6, h6s⟩, ⟨h7, h7s⟩, h8, h9⟩ := id hd
  have hL : ∀ q ∈ ([] : List Loc), x_fr (g_Mx a z) H0 q.base := fun q hq => by cases hq
  refine lv_aload_n hx hb d_Bd_size_0 rfl (lv_at hl 0 rfl) ?_
  refine x_get (ci := 7) (T := T_Bd) hx hb htb u_Bd hown hK h1 rfl 1 (by decide) (htb _ mw_86) (fun _ h9 => h9) (v := .ref (z + 2)) rfl d_Bd_size_1 ?_
  refine lv_aload_n hx hb d_Bd_size_4 rfl (lv_at hl 0 rfl) ?_
  refine lv_iload_n hx hb d_Bd_size_5 rfl (lv_at hl 1 rfl) ?_
  refine lv_iload_n hx hb d_Bd_size_6 rfl (lv_at hl 2 rfl) ?_
  refine x_call (F := x_fr (g_Mx a z) H0) (va_runV (As := [.int x, .int y]) (rest := [.ref (z + 2)]) ⟨hx, hb, hml, hown, htb⟩ (c_Bd_nameOf l hd x y) (x_cV 2 htb mw_131 mw_1 mw_134 mw_133 ms_0 rfl rfl (by decide +kernel) ⟨Nat.le_of_ble_eq_true rfl, Nat.le_of_ble_eq_true rfl⟩) (x_preV hK hN h1 rfl) rfl rfl hl.1 rfl (lv_room (Nat.le_of_ble_eq_true rfl)) d_Bd_size_7 ⟨Nat.le_of_ble_eq_true rfl, Nat.le_of_ble_eq_true rfl⟩) hL (fun q hq => Or.inr hq) (fun H1 locs hP hL => ?_)
  refine W.eq (g2 := F0 m 10 ls [.ref H0.size, .ref (z + 2)]) rfl ?_
  obtain ⟨k1, k1z, k1o⟩ := hP
  have hd1 := hd.ext (by omega) k1o
  have hk1 : g_K (g_M a z) H0 H1 := g_K.ext k1z k1o
  have h4 := h4.kept (k1o _ (by omega)) (k1o _ (by omega))
  have h4s := h4s.kept hk1
  obtain ⟨g, g1, -⟩ := id h4
  cases hfi : g_find S.2.2.1 (x, y, S.2.1) with
  | none =>
    refine x_callP (va_runV (As := [.ref H0.size]) (rest := []) ⟨hx, hb, hml, hown, htb⟩ (c_Fi_findN l h4 h4s k1 hfi) (x_cV 1 htb mw_154 mw_3 mw_157 mw_155 mw_156 rfl rfl (by decide +kernel) ⟨Nat.le_of_ble_eq_true rfl, Nat.le_of_ble_eq_true rfl⟩) (x_preV hK hN g1 rfl) rfl rfl hl.1 rfl (lv_room (Nat.le_of_ble_eq_true rfl)) d_Bd_size_10 ⟨Nat.le_of_ble_eq_true rfl, Nat.le_of_ble_eq_true rfl⟩) ?_
    refine W.eq (g2 := F0 m 13 ls [.null]) rfl ?_
    refine lv_astore_nN (lv' := [(3, .null), (0, .ref a), (1, .int x), (2, .int y)]) hx hb d_Bd_size_13 rfl hl (by decide) rfl (fun ls hl => ?_)
    refine lv_aload_nN hx hb d_Bd_size_14 rfl (lv_at hl 0 rfl) ?_
    refine lv_ifnonnullN hx hb d_Bd_size_15 ?_
    refine lv_iconst (v := (-1)) hx hb d_Bd_size_18 (by decide) ?_
    refine lv_goto (tgt := 29) hx hb d_Bd_size_19 (by decide) ?_
    exact x_iret hx hb hr hlocks (by rw [g_get_none hfi]; rfl) ⟨hd1, hk1⟩ hL (Nat.le_refl _) (Nat.le_refl _) d_Bd_size_29
  | some j =>
    have hj := g_find_lt hfi
    obtain ⟨f, hff⟩ := g_ex hj
    obtain ⟨fa, hfa⟩ := g_ex (as := as) (j := j) (by rw [h4s.1]; exact hj)
    obtain ⟨na, ca, f1, f2, f3, f4⟩ := h4s.2 j fa f hfa hff
    obtain ⟨cr, c1, -⟩ := id f4
    refine x_callP (va_runV (As := [.ref H0.size]) (rest := []) ⟨hx, hb, hml, hown, htb⟩ (c_Fi_find l h4 h4s k1 hfi hfa) (x_cV 1 htb mw_154 mw_3 mw_157 mw_155 mw_156 rfl rfl (by decide +kernel) ⟨Nat.le_of_ble_eq_true rfl, Nat.le_of_ble_eq_true rfl⟩) (x_preV hK hN g1 rfl) rfl rfl hl.1 rfl (lv_room (Nat.le_of_ble_eq_true rfl)) d_Bd_size_10 ⟨Nat.le_of_ble_eq_true rfl, Nat.le_of_ble_eq_true rfl⟩) ?_
    refine W.eq (g2 := F0 m 13 ls [.ref fa]) rfl ?_
    refine lv_astore_n (lv' := [(3, .ref fa), (0, .ref a), (1, .int x), (2, .int y)]) hx hb d_Bd_size_13 rfl hl (by decide) rfl (fun ls hl => ?_)
    refine lv_aload_n hx hb d_Bd_size_14 rfl (lv_at hl 0 rfl) ?_
    refine lv_ifnonnull (tgt := 22) hx hb d_Bd_size_15 (by decide) ?_
    refine lv_aload_n hx hb d_Bd_size_22 rfl (lv_at hl 0 rfl) ?_
    refine x_getN (ci := 2) (T := T_Sf) hx hb htb u_Sf hown hK f1 rfl 1 (by decide) (va_Nw.use rfl (hN.1 _ nf_379)) (fun _ h9 => h9) (v := .ref ca) rfl d_Bd_size_23 ?_
    refine x_callP (va_runV (As := []) (rest := []) ⟨hx, hb, hml, hown, htb⟩ (c_By_length l f4) (x_cV 0 htb mw_177 mw_5 mw_180 mw_178 mw_179 rfl rfl (by decide +kernel) ⟨Nat.le_of_ble_eq_true rfl, Nat.le_of_ble_eq_true rfl⟩) (x_preV hK hN c1 rfl) rfl rfl hl.1 rfl (lv_room (Nat.le_of_ble_eq_true rfl)) d_Bd_size_26 ⟨Nat.le_of_ble_eq_true rfl, Nat.le_of_ble_eq_true rfl⟩) ?_
    refine W.eq (g2 := F0 m 29 ls [.int (nI f.2.length)]) rfl ?_
    exact x_iret hx hb hr hlocks (by rw [g_get_some hfi hff]; rfl) ⟨hd1, hk1⟩ hL (Nat.le_refl _) (Nat.le_refl _) d_Bd_size_29
set_option maxHeartbeats 4000000 in
set_option maxRecDepth 100000 in
theorem c_Bd_at (l : Launch) {D : va_G} {A : Nat → ClassId} {H0 : Heap} {a z : Nat} {S : g_S} (hd : g_D D A a z S H0) (x y kk : Int32) : Met l y_Bd_at w_Bd_at { frames := 4, cells := 1, slots := 3, locals := 88 } (x_Pc D A [.ref a, .int x, .int y, .int kk] H0) (x_Q (some (.int (g_atv (g_get S.2.2.1 (x, y, S.2.1)) kk))) (fun H1 => g_D D A a z S H1 ∧ g_K (g_M a z) H0 H1)) 1 3 (x_fr (g_Mx a z) H0) := by
  refine Met.ofW (cc := prog_1_method_10_code) (maxL := 5) (ret := (some .int)) (by decide) rfl ?_
  intro p e s m args below meth c s₁ B hml hv
  obtain ⟨rfl, hH, hK, hN⟩ := hv
  obtain ⟨hx, hb, hr, htb, hown, hlocks⟩ := x_start (wd := Cond.code y_Bd_at prog_1_method_10_code 5 (some .int)) B
  have hl := lv_entry ([.ref a, .int x, .int y, .int kk]) (n := 5) (Nat.le_of_ble_eq_true rfl)
  rw [lg_entry_eq]
  generalize (lg_sl ([.ref a, .int x, .int y, .int kk]) ++ List.replicate (5 - (lg_sl ([.ref a, .int x, .int y, .int kk])).length) Slot.unset).toArray = ls at hl ⊢
  have hl : lv_has ls 5 [(0, .ref a), (1, .int x), (2, .int y), (3, .int kk)] := hl
  rw [hH]
  obtain ⟨pa, as, bs, cs, ds, h1, h2, h3, ⟨h4, h4s⟩, ⟨h5, h5s⟩, ⟨h6, h6s⟩, ⟨h7, h7s⟩, h8, h9⟩ := id hd
  have hL : ∀ q ∈ ([] : List Loc), x_fr (g_Mx a z) H0 q.base := fun q hq => by cases hq
  refine lv_aload_n hx hb d_Bd_at_0 rfl (lv_at hl 0 rfl) ?_
  refine x_get (ci := 7) (T := T_Bd) hx hb htb u_Bd hown hK h1 rfl 1 (by decide) (htb _ mw_86) (fun _ h9 => h9) (v := .ref (z + 2)) rfl d_Bd_at_1 ?_
  refine lv_aload_n hx hb d_Bd_at_4 rfl (lv_at hl 0 rfl) ?_
  refine lv_iload_n hx hb d_Bd_at_5 rfl (lv_at hl 1 rfl) ?_
  refine lv_iload_n hx hb d_Bd_at_6 rfl (lv_at hl 2 rfl) ?_
  refine x_call (F := x_fr (g_Mx a z) H0) (va_runV (As := [.int x, .int y]) (rest := [.ref (z + 2)]) ⟨hx, hb, hml, hown, htb⟩ (c_Bd_nameOf l hd x y) (x_cV 2 htb mw_131 mw_1 mw_134 mw_133 ms_0 rfl rfl (by decide +kernel) ⟨Nat.le_of_ble_eq_true rfl, Nat.le_of_ble_eq_true rfl⟩) (x_preV hK hN h1 rfl) rfl rfl hl.1 rfl (lv_room (Nat.le_of_ble_eq_true rfl)) d_Bd_at_7 ⟨Nat.le_of_ble_eq_true rfl, Nat.le_of_ble_eq_true rfl⟩) hL (fun q hq => Or.inr hq) (fun H1 locs hP hL => ?_)
  refine W.eq (g2 := F0 m 10 ls [.ref H0.size, .ref (z + 2)]) rfl ?_
  obtain ⟨k1, k1z, k1o⟩ := hP
  have hd1 := hd.ext (by omega) k1o
  have hk1 : g_K (g_M a z) H0 H1 := g_K.ext k1z k1o
  have h4 := h4.kept (k1o _ (by omega)) (k1o _ (by omega))
  have h4s := h4s.kept hk1
  obtain ⟨g, g1, -⟩ := id h4
  cases hfi : g_find S.2.2.1 (x, y, S.2.1) with
  | none =>
    refine x_callP (va_runV (As := [.ref H0.size]) (rest := []) ⟨hx, hb, hml, hown, htb⟩ (c_Fi_findN l h4 h4s k1 hfi) (x_cV 1 htb mw_154 mw_3 mw_157 mw_155 mw_156 rfl rfl (by decide +kernel) ⟨Nat.le_of_ble_eq_true rfl, Nat.le_of_ble_eq_true rfl⟩) (x_preV hK hN g1 rfl) rfl rfl hl.1 rfl (lv_room (Nat.le_of_ble_eq_true rfl)) d_Bd_at_10 ⟨Nat.le_of_ble_eq_true rfl, Nat.le_of_ble_eq_true rfl⟩) ?_
    refine W.eq (g2 := F0 m 13 ls [.null]) rfl ?_
    refine lv_astoreN (lv' := [(4, .null), (0, .ref a), (1, .int x), (2, .int y), (3, .int kk)]) hx hb d_Bd_at_13 hl (by decide) rfl (fun ls hl => ?_)
    refine lv_aloadN hx hb d_Bd_at_15 (lv_at hl 0 rfl) ?_
    refine lv_ifnonnullN hx hb d_Bd_at_17 ?_
    refine lv_iconst (v := (-1)) hx hb d_Bd_at_20 (by decide) ?_
    refine lv_goto (tgt := 33) hx hb d_Bd_at_21 (by decide) ?_
    exact x_iret hx hb hr hlocks (by rw [g_get_none hfi]; rfl) ⟨hd1, hk1⟩ hL (Nat.le_refl _) (Nat.le_refl _) d_Bd_at_33
  | some j =>
    have hj := g_find_lt hfi
    obtain ⟨f, hff⟩ := g_ex hj
    obtain ⟨fa, hfa⟩ := g_ex (as := as) (j := j) (by rw [h4s.1]; exact hj)
    obtain ⟨na, ca, f1, f2, f3, f4⟩ := h4s.2 j fa f hfa hff
    obtain ⟨cr, c1, -⟩ := id f4
    refine x_callP (va_runV (As := [.ref H0.size]) (rest := []) ⟨hx, hb, hml, hown, htb⟩ (c_Fi_find l h4 h4s k1 hfi hfa) (x_cV 1 htb mw_154 mw_3 mw_157 mw_155 mw_156 rfl rfl (by decide +kernel) ⟨Nat.le_of_ble_eq_true rfl, Nat.le_of_ble_eq_true rfl⟩) (x_preV hK hN g1 rfl) rfl rfl hl.1 rfl (lv_room (Nat.le_of_ble_eq_true rfl)) d_Bd_at_10 ⟨Nat.le_of_ble_eq_true rfl, Nat.le_of_ble_eq_true rfl⟩) ?_
    refine W.eq (g2 := F0 m 13 ls [.ref fa]) rfl ?_
    refine lv_astore (lv' := [(4, .ref fa), (0, .ref a), (1, .int x), (2, .int y), (3, .int kk)]) hx hb d_Bd_at_13 hl (by decide) rfl (fun ls hl => ?_)
    refine lv_aload hx hb d_Bd_at_15 (lv_at hl 0 rfl) ?_
    refine lv_ifnonnull (tgt := 24) hx hb d_Bd_at_17 (by decide) ?_
    refine lv_aload hx hb d_Bd_at_24 (lv_at hl 0 rfl) ?_
    refine x_getN (ci := 2) (T := T_Sf) hx hb htb u_Sf hown hK f1 rfl 1 (by decide) (va_Nw.use rfl (hN.1 _ nf_379)) (fun _ h9 => h9) (v := .ref ca) rfl d_Bd_at_26 ?_
    refine lv_iload_n hx hb d_Bd_at_29 rfl (lv_at hl 4 rfl) ?_
    refine x_callP (va_runV (As := [.int kk]) (rest := []) ⟨hx, hb, hml, hown, htb⟩ (c_By_byteAt l f4 kk) (x_cV 1 htb mw_185 mw_5 mw_188 mw_186 mw_187 rfl rfl (by decide +kernel) ⟨Nat.le_of_ble_eq_true rfl, Nat.le_of_ble_eq_true rfl⟩) (x_preV hK hN c1 rfl) rfl rfl hl.1 rfl (lv_room (Nat.le_of_ble_eq_true rfl)) d_Bd_at_30 ⟨Nat.le_of_ble_eq_true rfl, Nat.le_of_ble_eq_true rfl⟩) ?_
    refine W.eq (g2 := F0 m 33 ls [.int (g_at f.2 kk)]) rfl ?_
    exact x_iret hx hb hr hlocks (by rw [g_get_some hfi hff]; rfl) ⟨hd1, hk1⟩ hL (Nat.le_refl _) (Nat.le_refl _) d_Bd_at_33
set_option maxHeartbeats 4000000 in
set_option maxRecDepth 100000 in
theorem c_Bd_list (l : Launch) {D : va_G} {A : Nat → ClassId} {H0 : Heap} {a z : Nat} {S : g_S} (hd : g_D D A a z S H0) {x : Int32} (hx0 : g_sort x) : Met l y_Bd_list w_Bd_list { frames := 1, cells := 0, slots := 0, locals := 23 } (x_Pc D A [.ref a, .int x] H0) (x_Q (some (.int (nI (g_ofs S.2.2.1 x).length))) (fun H1 => g_D D A a z (S.1, S.2.1, S.2.2.1, S.2.2.2.1, g_ofs S.2.2.1 x, S.2.2.2.2.2.1, S.2.2.2.2.2.2) H1 ∧ g_K (g_M a z) H0 H1)) 0 0 (x_fr (g_Mx a z) H0) := by
  refine Met.ofW (cc := prog_1_method_11_code) (maxL := 2) (ret := (some .int)) (by decide) rfl ?_
  intro p e s m args below meth c s₁ B hml hv
  obtain ⟨rfl, hH, hK, hN⟩ := hv
  obtain ⟨hx, hb, hr, htb, hown, hlocks⟩ := x_start (wd := Cond.code y_Bd_list prog_1_method_11_code 2 (some .int)) B
  have hl := lv_entry ([.ref a, .int x]) (n := 2) (Nat.le_of_ble_eq_true rfl)
  rw [lg_entry_eq]
  generalize (lg_sl ([.ref a, .int x]) ++ List.replicate (2 - (lg_sl ([.ref a, .int x])).length) Slot.unset).toArray = ls at hl ⊢
  have hl : lv_has ls 2 [(0, .ref a), (1, .int x)] := hl
  rw [hH]
  obtain ⟨pa, as, bs, cs, ds, h1, h2, h3, ⟨h4, h4s⟩, ⟨h5, h5s⟩, ⟨h6, h6s⟩, ⟨h7, h7s⟩, h8, h9⟩ := id hd
  have hL : ∀ q ∈ ([] : List Loc), x_fr (g_Mx a z) H0 q.base := fun q hq => by cases hq
  obtain ⟨g, g1, -⟩ := id h6
  refine lv_iload_n hx hb d_Bd_list_0 rfl (lv_at hl 1 rfl) ?_
  refine x_callP (va_runS (As := [.int x]) (rest := []) ⟨hx, hb, hml, hown, htb⟩ (c_Bd_isSort l hx0) (x_cS 1 htb mw_193 mw_1 mw_195 mw_194 rfl rfl (by decide +kernel) ⟨Nat.le_of_ble_eq_true rfl, Nat.le_of_ble_eq_true rfl⟩) (x_preS hK hN) rfl rfl hl.1 rfl (lv_room (Nat.le_of_ble_eq_true rfl)) d_Bd_list_1 ⟨Nat.le_of_ble_eq_true rfl, Nat.le_of_ble_eq_true rfl⟩) ?_
  refine W.eq (g2 := F0 m 4 ls [.int 1]) rfl ?_
  refine lv_if_ne (tgt := 9) hx hb d_Bd_list_4 (by decide) (fun _ => ?_) (fun c9 => absurd c9 (by decide))
  refine lv_aload_n hx hb d_Bd_list_9 rfl (lv_at hl 0 rfl) ?_
  refine x_get (ci := 7) (T := T_Bd) hx hb htb u_Bd hown hK h1 rfl 3 (by decide) (htb _ mw_88) (fun _ h9 => h9) (v := .ref (z + 6)) rfl d_Bd_list_10 ?_
  refine lv_aload_n hx hb d_Bd_list_13 rfl (lv_at hl 0 rfl) ?_
  refine x_get (ci := 7) (T := T_Bd) hx hb htb u_Bd hown hK h1 rfl 1 (by decide) (htb _ mw_86) (fun _ h9 => h9) (v := .ref (z + 2)) rfl d_Bd_list_14 ?_
  refine lv_iload_n hx hb d_Bd_list_17 rfl (lv_at hl 1 rfl) ?_
  refine x_call (F := x_fr (g_Mx a z) H0) (va_runV (As := [.ref (z + 2), .int x]) (rest := []) ⟨hx, hb, hml, hown, htb⟩ (c_Fi_copySortFrom l (x := x) h6 h4 h4s (g_M.in (i := 6) (by decide)) (g_M.in (i := 7) (by decide)) (by omega) (by omega) (by omega) (by omega) (by omega)) (x_cV 2 htb mw_196 mw_3 mw_199 mw_197 mw_198 rfl rfl (by decide +kernel) ⟨Nat.le_of_ble_eq_true rfl, Nat.le_of_ble_eq_true rfl⟩) (x_preV hK hN g1 rfl) rfl rfl hl.1 rfl (lv_room (Nat.le_of_ble_eq_true rfl)) d_Bd_list_18 ⟨Nat.le_of_ble_eq_true rfl, Nat.le_of_ble_eq_true rfl⟩) hL (fun q hq => Or.inl (hq.elim (fun e => e ▸ g_M.in (by decide)) (fun e => e ▸ g_M.in (by decide)))) (fun H1 locs hP hL => ?_)
  refine W.eq (g2 := F0 m 21 ls []) rfl ?_
  obtain ⟨q1, q2⟩ := hP
  have hk1 := q2.K (M := g_M a z) (g_M.in (i := 6) (by decide)) (g_M.in (i := 7) (by decide))
  have hs1 := (g_sel_fs (x := x) as S.2.2.1 h4s).kept hk1
  have hd1 := hd.told q2 q1 hs1
  have h1 := q2.at h1 (by omega) (by omega)
  obtain ⟨g2, g3, -⟩ := id q1
  refine lv_aload_n hx hb d_Bd_list_21 rfl (lv_at hl 0 rfl) ?_
  refine x_get (ci := 7) (T := T_Bd) hx hb htb u_Bd hown hK h1 rfl 3 (by decide) (htb _ mw_88) (fun _ h9 => h9) (v := .ref (z + 6)) rfl d_Bd_list_22 ?_
  refine x_getN (ci := 5) (T := T_Fi) hx hb htb u_Fi hown hK g3 rfl 1 (by decide) (va_Nw.use rfl (hN.1 _ nf_53)) (fun _ h9 => h9) (v := .int (nI (g_sel as S.2.2.1 x as.length).length)) rfl d_Bd_list_25 ?_
  exact x_iret hx hb hr hlocks (by rw [hs1.1]) ⟨hd1, hk1⟩ hL (Nat.le_refl _) (Nat.le_refl _) d_Bd_list_28
set_option maxHeartbeats 4000000 in
set_option maxRecDepth 100000 in
theorem c_Bd_listN (l : Launch) {D : va_G} {A : Nat → ClassId} {H0 : Heap} {a z : Nat} {S : g_S} (hd : g_D D A a z S H0) {x : Int32} (hx0 : ¬ g_sort x) : Met l y_Bd_list w_Bd_list { frames := 1, cells := 0, slots := 0, locals := 23 } (x_Pc D A [.ref a, .int x] H0) (x_Q (some (.int (-1))) (fun H1 => H1 = H0)) 0 0 (fun _ => False) := by
  refine Met.ofW (cc := prog_1_method_11_code) (maxL := 2) (ret := (some .int)) (by decide) rfl ?_
  intro p e s m args below meth c s₁ B hml hv
  obtain ⟨rfl, hH, hK, hN⟩ := hv
  obtain ⟨hx, hb, hr, htb, hown, hlocks⟩ := x_start (wd := Cond.code y_Bd_list prog_1_method_11_code 2 (some .int)) B
  have hl := lv_entry ([.ref a, .int x]) (n := 2) (Nat.le_of_ble_eq_true rfl)
  rw [lg_entry_eq]
  generalize (lg_sl ([.ref a, .int x]) ++ List.replicate (2 - (lg_sl ([.ref a, .int x])).length) Slot.unset).toArray = ls at hl ⊢
  have hl : lv_has ls 2 [(0, .ref a), (1, .int x)] := hl
  rw [hH]
  refine lv_iload_n hx hb d_Bd_list_0 rfl (lv_at hl 1 rfl) ?_
  refine x_callP (va_runS (As := [.int x]) (rest := []) ⟨hx, hb, hml, hown, htb⟩ (c_Bd_isSortN l hx0) (x_cS 1 htb mw_193 mw_1 mw_195 mw_194 rfl rfl (by decide +kernel) ⟨Nat.le_of_ble_eq_true rfl, Nat.le_of_ble_eq_true rfl⟩) (x_preS hK hN) rfl rfl hl.1 rfl (lv_room (Nat.le_of_ble_eq_true rfl)) d_Bd_list_1 ⟨Nat.le_of_ble_eq_true rfl, Nat.le_of_ble_eq_true rfl⟩) ?_
  refine W.eq (g2 := F0 m 4 ls [.int 0]) rfl ?_
  refine lv_if_ne (tgt := 9) hx hb d_Bd_list_4 (by decide) (fun c9 => absurd rfl c9) (fun _ => ?_)
  refine lv_iconst (v := (-1)) hx hb d_Bd_list_7 (by decide) ?_
  exact x_iret hx hb hr hlocks rfl rfl (fun q hq => by cases hq) (Nat.le_refl _) (Nat.le_refl _) d_Bd_list_8
def g_lsd (fs : List g_F) (i k : Int32) : Int32 := if i < 0 then -1 else match fs[i.toNatClampNeg]? with
  | some f => if k = -1 then f.1.2.1 else g_at f.1.2.2 k
  | none => -1
set_option maxHeartbeats 4000000 in
set_option maxRecDepth 100000 in
theorem c_Bd_listed (l : Launch) {D : va_G} {A : Nat → ClassId} {H0 : Heap} {a z : Nat} {S : g_S} (hd : g_D D A a z S H0) (i kk : Int32) : Met l y_Bd_listed w_Bd_listed { frames := 1, cells := 0, slots := 0, locals := 21 } (x_Pc D A [.ref a, .int i, .int kk] H0) (x_Q (some (.int (g_lsd S.2.2.2.2.1 i kk))) (fun H1 => H1 = H0)) 0 0 (fun _ => False) := by
  refine Met.ofW (cc := prog_1_method_12_code) (maxL := 4) (ret := (some .int)) (by decide) rfl ?_
  intro p e s m args below meth c s₁ B hml hv
  obtain ⟨rfl, hH, hK, hN⟩ := hv
  obtain ⟨hx, hb, hr, htb, hown, hlocks⟩ := x_start (wd := Cond.code y_Bd_listed prog_1_method_12_code 4 (some .int)) B
  have hl := lv_entry ([.ref a, .int i, .int kk]) (n := 4) (Nat.le_of_ble_eq_true rfl)
  rw [lg_entry_eq]
  generalize (lg_sl ([.ref a, .int i, .int kk]) ++ List.replicate (4 - (lg_sl ([.ref a, .int i, .int kk])).length) Slot.unset).toArray = ls at hl ⊢
  have hl : lv_has ls 4 [(0, .ref a), (1, .int i), (2, .int kk)] := hl
  rw [hH]
  obtain ⟨pa, as, bs, cs, ds, h1, h2, h3, ⟨h4, h4s⟩, ⟨h5, h5s⟩, ⟨h6, h6s⟩, ⟨h7, h7s⟩, h8, h9⟩ := id hd
  obtain ⟨g, g1, g2, g3, g4⟩ := id h6
  refine lv_aload_n hx hb d_Bd_listed_0 rfl (lv_at hl 0 rfl) ?_
  refine x_get (ci := 7) (T := T_Bd) hx hb htb u_Bd hown hK h1 rfl 3 (by decide) (htb _ mw_88) (fun _ h9 => h9) (v := .ref (z + 6)) rfl d_Bd_listed_1 ?_
  refine lv_iload_n hx hb d_Bd_listed_4 rfl (lv_at hl 1 rfl) ?_
  by_cases ho : i < 0 ∨ nI cs.length ≤ i
  · refine x_callP (va_runV (As := [.int i]) (rest := []) ⟨hx, hb, hml, hown, htb⟩ (c_Fi_nthN l h6 ho) (x_cV 1 htb mw_204 mw_3 mw_176 mw_174 mw_175 rfl rfl (by decide +kernel) ⟨Nat.le_of_ble_eq_true rfl, Nat.le_of_ble_eq_true rfl⟩) (x_preV hK hN g1 rfl) rfl rfl hl.1 rfl (lv_room (Nat.le_of_ble_eq_true rfl)) d_Bd_listed_5 ⟨Nat.le_of_ble_eq_true rfl, Nat.le_of_ble_eq_true rfl⟩) ?_
    refine W.eq (g2 := F0 m 8 ls [.null]) rfl ?_
    refine lv_astore_nN (lv' := [(3, .null), (0, .ref a), (1, .int i), (2, .int kk)]) hx hb d_Bd_listed_8 rfl hl (by decide) rfl (fun ls hl => ?_)
    refine lv_aload_nN hx hb d_Bd_listed_9 rfl (lv_at hl 0 rfl) ?_
    refine lv_ifnonnullN hx hb d_Bd_listed_10 ?_
    refine lv_iconst (v := (-1)) hx hb d_Bd_listed_13 (by decide) ?_
    refine x_iret hx hb hr hlocks ?_ rfl (fun q hq => by cases hq) (Nat.le_refl _) (Nat.le_refl _) d_Bd_listed_14
    unfold g_lsd
    by_cases c1 : i < 0
    · rw [if_pos c1]
    · rw [if_neg c1, List.getElem?_eq_none]
      rw [← h6s.1]
      refine Nat.le_of_not_lt fun q => ?_
      obtain ⟨j, hj31, rfl⟩ := nI_of c1
      rw [nI_clamp hj31] at q
      exact absurd (ho.resolve_left c1) (nI_ge q (by omega))
  · obtain ⟨c1, c2⟩ := not_or.mp ho
    obtain ⟨j, hj, rfl⟩ : ∃ j : Nat, j < cs.length ∧ i = nI j := by
      rcases pk_ix i (n := cs.length) (by omega) with q | q | q
      · exact absurd q c1
      · exact absurd q c2
      · exact q
    obtain ⟨fa, hfa⟩ := g_ex hj
    obtain ⟨f, hff⟩ := g_ex (as := S.2.2.2.2.1) (j := j) (by rw [← h6s.1]; exact hj)
    obtain ⟨na, ca, f1, f2, ⟨pb, f3, f3m, f5⟩, f4⟩ := h6s.2 j fa f hfa hff
    obtain ⟨pr, f6, -⟩ := id f5
    have hg : ∀ x : Int32, g_lsd S.2.2.2.2.1 (nI j) x = if x = -1 then f.1.2.1 else g_at f.1.2.2 x := fun x => by
      unfold g_lsd
      rw [if_neg c1, nI_clamp (by omega), hff]
    refine x_callP (va_runV (As := [.int (nI j)]) (rest := []) ⟨hx, hb, hml, hown, htb⟩ (c_Fi_nth l h6 hfa) (x_cV 1 htb mw_204 mw_3 mw_176 mw_174 mw_175 rfl rfl (by decide +kernel) ⟨Nat.le_of_ble_eq_true rfl, Nat.le_of_ble_eq_true rfl⟩) (x_preV hK hN g1 rfl) rfl rfl hl.1 rfl (lv_room (Nat.le_of_ble_eq_true rfl)) d_Bd_listed_5 ⟨Nat.le_of_ble_eq_true rfl, Nat.le_of_ble_eq_true rfl⟩) ?_
    refine W.eq (g2 := F0 m 8 ls [.ref fa]) rfl ?_
    refine lv_astore_n (lv' := [(3, .ref fa), (0, .ref a), (1, .int (nI j)), (2, .int kk)]) hx hb d_Bd_listed_8 rfl hl (by decide) rfl (fun ls hl => ?_)
    refine lv_aload_n hx hb d_Bd_listed_9 rfl (lv_at hl 0 rfl) ?_
    refine lv_ifnonnull (tgt := 15) hx hb d_Bd_listed_10 (by decide) ?_
    refine lv_iload_n hx hb d_Bd_listed_15 rfl (lv_at hl 3 rfl) ?_
    refine lv_iconst (v := (-1)) hx hb d_Bd_listed_16 (by decide) ?_
    refine lv_icmp_ne (tgt := 30) hx hb d_Bd_listed_17 (by decide) (fun c3 => ?_) (fun c3 => ?_)
    · refine lv_aload_n hx hb d_Bd_listed_30 rfl (lv_at hl 0 rfl) ?_
      refine x_getN (ci := 2) (T := T_Sf) hx hb htb u_Sf hown hK f1 rfl 0 (by decide) (va_Nw.use rfl (hN.1 _ nf_377)) (fun _ h9 => h9) (v := .ref na) rfl d_Bd_listed_31 ?_
      refine x_getN (ci := 1) (T := T_Nm) hx hb htb u_Nm hown hK f3 rfl 2 (by decide) (va_Nw.use rfl (hN.1 _ nf_146)) (fun _ h9 => h9) (v := .ref pb) rfl d_Bd_listed_34 ?_
      refine lv_iload_n hx hb d_Bd_listed_37 rfl (lv_at hl 3 rfl) ?_
      refine x_callP (va_runV (As := [.int kk]) (rest := []) ⟨hx, hb, hml, hown, htb⟩ (c_By_byteAt l f5 kk) (x_cV 1 htb mw_185 mw_5 mw_188 mw_186 mw_187 rfl rfl (by decide +kernel) ⟨Nat.le_of_ble_eq_true rfl, Nat.le_of_ble_eq_true rfl⟩) (x_preV hK hN f6 rfl) rfl rfl hl.1 rfl (lv_room (Nat.le_of_ble_eq_true rfl)) d_Bd_listed_38 ⟨Nat.le_of_ble_eq_true rfl, Nat.le_of_ble_eq_true rfl⟩) ?_
      refine W.eq (g2 := F0 m 41 ls [.int (g_at f.1.2.2 kk)]) rfl ?_
      exact x_iret hx hb hr hlocks (by rw [hg, if_neg c3]) rfl (fun q hq => by cases hq) (Nat.le_refl _) (Nat.le_refl _) d_Bd_listed_41
    · refine lv_aload_n hx hb d_Bd_listed_20 rfl (lv_at hl 0 rfl) ?_
      refine x_getN (ci := 2) (T := T_Sf) hx hb htb u_Sf hown hK f1 rfl 0 (by decide) (va_Nw.use rfl (hN.1 _ nf_377)) (fun _ h9 => h9) (v := .ref na) rfl d_Bd_listed_21 ?_
      refine x_getN (ci := 1) (T := T_Nm) hx hb htb u_Nm hown hK f3 rfl 1 (by decide) (va_Nw.use rfl (hN.1 _ nf_144)) (fun _ h9 => h9) (v := .int f.1.2.1) rfl d_Bd_listed_24 ?_
      refine lv_goto (tgt := 41) hx hb d_Bd_listed_27 (by decide) ?_
      exact x_iret hx hb hr hlocks (by rw [hg, if_pos c3]) rfl (fun q hq => by cases hq) (Nat.le_refl _) (Nat.le_refl _) d_Bd_listed_41
end
section
def g_cntv (S : g_S) (x : Int32) : Int32 := if ¬ x < 0 ∧ x < 7 then nI (g_cnt S.2.2.1 x) else if x = 7 then nI S.2.2.1.length else if x = 8 then nI S.2.2.2.2.2.1.length else if x = 9 then nI S.1.length else if x = 10 then nI S.2.2.2.2.2.2 else -1
theorem x_in4 {x : Int32} (h : ¬ (x.toInt < 7 ∨ 10 < x.toInt)) : x = 7 ∨ x = 8 ∨ x = 9 ∨ x = 10 := by
  have h2 : x.toInt = 7 ∨ x.toInt = 8 ∨ x.toInt = 9 ∨ x.toInt = 10 := by omega
  rcases h2 with h | h | h | h
  · exact Or.inl (Int32.toInt_inj.mp h)
  · exact Or.inr (Or.inl (Int32.toInt_inj.mp h))
  · exact Or.inr (Or.inr (Or.inl (Int32.toInt_inj.mp h)))
  · exact Or.inr (Or.inr (Or.inr (Int32.toInt_inj.mp h)))
theorem g_os.push {D : va_G} {A : Nat → ClassId} {M : Nat → Prop} {as : List Nat} {os : List g_O} {H : Heap} {b : Nat} {o : g_O} (h : g_os D A M as os H) (ho : g_op D A M b o H) : g_os D A M (as ++ [b]) (os ++ [o]) H := by
  refine ⟨by rw [List.length_append, List.length_append, h.1]; rfl, fun j a f h1 h2 => ?_⟩
  rcases Nat.lt_trichotomy j as.length with w | w | w
  · rw [List.getElem?_append_left w] at h1
    rw [List.getElem?_append_left (by rw [← h.1]; exact w)] at h2
    exact h.2 j a f h1 h2
  · rw [List.getElem?_append_right (by omega), w, Nat.sub_self] at h1
    rw [List.getElem?_append_right (by rw [← h.1]; omega), w, h.1, Nat.sub_self] at h2
    cases h1
    cases h2
    exact ho
  · rw [List.getElem?_eq_none (by rw [List.length_append]; show _ + 1 ≤ j; omega)] at h1
    cases h1
def g_K2 (x y : Nat) (H H1 : Heap) : Prop := H.size ≤ H1.size ∧ ∀ q : Nat, q < H.size → q ≠ x → q ≠ y → H1[q]? = H[q]?
/-- the tape changes, and cells come -/
theorem g_D.tape1 {D : va_G} {A : Nat → ClassId} {a z : Nat} {S : g_S} {H H1 : Heap} (h : g_D D A a z S H) (hk : g_K2 z (z + 1) H H1) {v : List Nat} (n : g_tp D A z (z + 1) v H1) : g_D D A a z (v, S.2.1, S.2.2.1, S.2.2.2.1, S.2.2.2.2.1, S.2.2.2.2.2.1, S.2.2.2.2.2.2) H1 := by
  obtain ⟨pa, as, bs, cs, ds, h1, h2, h3, ⟨h4, h4s⟩, ⟨h5, h5s⟩, ⟨h6, h6s⟩, ⟨h7, h7s⟩, h8, h9⟩ := h
  have hq := hk.2
  have hK : g_K (g_M a z) H H1 := ⟨hk.1, fun q h hM => hq q h (fun e => hM (e ▸ g_M.in (i := 0) (by decide))) (fun e => hM (e ▸ g_M.in (by decide)))⟩
  exact ⟨pa, as, bs, cs, ds, h1.kept (hq _ (by omega) (by omega) (by omega)), n, h3.kept hK, ⟨h4.kept (hq _ (by omega) (by omega) (by omega)) (hq _ (by omega) (by omega) (by omega)), h4s.kept hK⟩, ⟨h5.kept (hq _ (by omega) (by omega) (by omega)) (hq _ (by omega) (by omega) (by omega)), h5s.kept hK⟩, ⟨h6.kept (hq _ (by omega) (by omega) (by omega)) (hq _ (by omega) (by omega) (by omega)), h6s.kept hK⟩, ⟨h7.kept (hq _ (by omega) (by omega) (by omega)) (hq _ (by omega) (by omega) (by omega)), h7s.kept hK⟩, h8, Nat.le_trans h9 hk.1⟩
set_option maxHeartbeats 4000000 in
set_option maxRecDepth 100000 in
theorem c_Bd_count (l : Launch) {D : va_G} {A : Nat → ClassId} {H0 : Heap} {a z : Nat} {S : g_S} (hd : g_D D A a z S H0) (x : Int32) : Met l y_Bd_count w_Bd_count { frames := 1, cells := 0, slots := 0, locals := 23 } (x_Pc D A [.ref a, .int x] H0) (x_Q (some (.int (g_cntv S x))) (fun H1 => H1 = H0)) 0 0 (fun _ => False) := by
  refine Met.ofW (cc := prog_1_method_13_code) (maxL := 2) (ret := (some .int)) (by decide) rfl ?_
  intro p e s m args below meth c s₁ B hml hv
  obtain ⟨rfl, hH, hK, hN⟩ := hv
  obtain ⟨hx, hb, hr, htb, hown, hlocks⟩ := x_start (wd := Cond.code y_Bd_count prog_1_method_13_code 2 (some .int)) B
  have hl := lv_entry ([.ref a, .int x]) (n := 2) (Nat.le_of_ble_eq_true rfl)
  rw [lg_entry_eq]
  generalize (lg_sl ([.ref a, .int x]) ++ List.replicate (2 - (lg_sl ([.ref a, .int x])).length) Slot.unset).toArray = ls at hl ⊢
  have hl : lv_has ls 2 [(0, .ref a), (1, .int x)] := hl
  rw [hH]
  obtain ⟨pa, as, bs, cs, ds, h1, h2, h3, ⟨h4, h4s⟩, ⟨h5, h5s⟩, ⟨h6, h6s⟩, ⟨h7, h7s⟩, h8, h9⟩ := id hd
  obtain ⟨f, t1, -⟩ := id h2
  obtain ⟨g4, g41, -⟩ := id h4
  obtain ⟨g7, g71, -⟩ := id h7
  refine lv_iload_n hx hb d_Bd_count_0 rfl (lv_at hl 1 rfl) ?_
  by_cases hs : g_sort x
  · refine x_callP (va_runS (As := [.int x]) (rest := []) ⟨hx, hb, hml, hown, htb⟩ (c_Bd_isSort l hs) (x_cS 1 htb mw_193 mw_1 mw_195 mw_194 rfl rfl (by decide +kernel) ⟨Nat.le_of_ble_eq_true rfl, Nat.le_of_ble_eq_true rfl⟩) (x_preS hK hN) rfl rfl hl.1 rfl (lv_room (Nat.le_of_ble_eq_true rfl)) d_Bd_count_1 ⟨Nat.le_of_ble_eq_true rfl, Nat.le_of_ble_eq_true rfl⟩) ?_
    refine W.eq (g2 := F0 m 4 ls [.int 1]) rfl ?_
    refine lv_if_eq (tgt := 16) hx hb d_Bd_count_4 (by decide) (fun c9 => absurd c9 (by decide)) (fun _ => ?_)
    refine lv_aload_n hx hb d_Bd_count_7 rfl (lv_at hl 0 rfl) ?_
    refine x_get (ci := 7) (T := T_Bd) hx hb htb u_Bd hown hK h1 rfl 1 (by decide) (htb _ mw_86) (fun _ h9 => h9) (v := .ref (z + 2)) rfl d_Bd_count_8 ?_
    refine lv_iload_n hx hb d_Bd_count_11 rfl (lv_at hl 1 rfl) ?_
    refine x_callP (va_runV (As := [.int x]) (rest := []) ⟨hx, hb, hml, hown, htb⟩ (c_Fi_countOfSort l h4 h4s x) (x_cV 1 htb mw_209 mw_3 mw_212 mw_210 mw_211 rfl rfl (by decide +kernel) ⟨Nat.le_of_ble_eq_true rfl, Nat.le_of_ble_eq_true rfl⟩) (x_preV hK hN g41 rfl) rfl rfl hl.1 rfl (lv_room (Nat.le_of_ble_eq_true rfl)) d_Bd_count_12 ⟨Nat.le_of_ble_eq_true rfl, Nat.le_of_ble_eq_true rfl⟩) ?_
    refine W.eq (g2 := F0 m 15 ls [.int (nI (g_cnt S.2.2.1 x))]) rfl ?_
    exact x_iret hx hb hr hlocks (by unfold g_cntv; rw [if_pos (show ¬ x < 0 ∧ x < 7 from hs)]) rfl (fun q hq => by cases hq) (Nat.le_refl _) (Nat.le_refl _) d_Bd_count_15
  · refine x_callP (va_runS (As := [.int x]) (rest := []) ⟨hx, hb, hml, hown, htb⟩ (c_Bd_isSortN l hs) (x_cS 1 htb mw_193 mw_1 mw_195 mw_194 rfl rfl (by decide +kernel) ⟨Nat.le_of_ble_eq_true rfl, Nat.le_of_ble_eq_true rfl⟩) (x_preS hK hN) rfl rfl hl.1 rfl (lv_room (Nat.le_of_ble_eq_true rfl)) d_Bd_count_1 ⟨Nat.le_of_ble_eq_true rfl, Nat.le_of_ble_eq_true rfl⟩) ?_
    refine W.eq (g2 := F0 m 4 ls [.int 0]) rfl ?_
    refine lv_if_eq (tgt := 16) hx hb d_Bd_count_4 (by decide) (fun _ => ?_) (fun c9 => absurd rfl c9)
    refine lv_iload_n hx hb d_Bd_count_16 rfl (lv_at hl 1 rfl) ?_
    by_cases hh : x.toInt < 7 ∨ 10 < x.toInt
    · refine lv_tableOut (tgt := 77) hx hb d_Bd_count_17 hh (by decide) ?_
      refine lv_iconst (v := (-1)) hx hb d_Bd_count_77 (by decide) ?_
      refine x_iret hx hb hr hlocks ?_ rfl (fun q hq => by cases hq) (Nat.le_refl _) (Nat.le_refl _) d_Bd_count_78
      unfold g_cntv
      rw [if_neg (show ¬ (¬ x < 0 ∧ x < 7) from hs), if_neg (fun e => by rw [e] at hh; exact absurd hh (by decide)), if_neg (fun e => by rw [e] at hh; exact absurd hh (by decide)), if_neg (fun e => by rw [e] at hh; exact absurd hh (by decide)), if_neg (fun e => by rw [e] at hh; exact absurd hh (by decide))]
    · rcases x_in4 hh with rfl | rfl | rfl | rfl
      · refine lv_tableIn (x := 7) (tgt := 48) (off := 31) hx hb d_Bd_count_17 (by decide) (by decide) (by decide) (by decide) ?_
        refine lv_aload_n hx hb d_Bd_count_48 rfl (lv_at hl 0 rfl) ?_
        refine x_get (ci := 7) (T := T_Bd) hx hb htb u_Bd hown hK h1 rfl 1 (by decide) (htb _ mw_86) (fun _ h9 => h9) (v := .ref (z + 2)) rfl d_Bd_count_49 ?_
        refine x_getN (ci := 5) (T := T_Fi) hx hb htb u_Fi hown hK g41 rfl 1 (by decide) (va_Nw.use rfl (hN.1 _ nf_53)) (fun _ h9 => h9) (v := .int (nI as.length)) rfl d_Bd_count_52 ?_
        exact x_iret hx hb hr hlocks (by unfold g_cntv; rw [if_neg (by decide), if_pos rfl, h4s.1]) rfl (fun q hq => by cases hq) (Nat.le_refl _) (Nat.le_refl _) d_Bd_count_55
      · refine lv_tableIn (x := 8) (tgt := 56) (off := 39) hx hb d_Bd_count_17 (by decide) (by decide) (by decide) (by decide) ?_
        refine lv_aload_n hx hb d_Bd_count_56 rfl (lv_at hl 0 rfl) ?_
        refine x_get (ci := 7) (T := T_Bd) hx hb htb u_Bd hown hK h1 rfl 4 (by decide) (htb _ mw_89) (fun _ h9 => h9) (v := .ref (z + 8)) rfl d_Bd_count_57 ?_
        refine x_getN (ci := 6) (T := T_Jo) hx hb htb u_Jo hown hK g71 rfl 1 (by decide) (va_Nw.use rfl (hN.1 _ nf_69)) (fun _ h9 => h9) (v := .int (nI ds.length)) rfl d_Bd_count_60 ?_
        exact x_iret hx hb hr hlocks (by unfold g_cntv; rw [if_neg (by decide), if_neg (by decide), if_pos rfl, h7s.1]) rfl (fun q hq => by cases hq) (Nat.le_refl _) (Nat.le_refl _) d_Bd_count_63
      · refine lv_tableIn (x := 9) (tgt := 64) (off := 47) hx hb d_Bd_count_17 (by decide) (by decide) (by decide) (by decide) ?_
        refine lv_aload_n hx hb d_Bd_count_64 rfl (lv_at hl 0 rfl) ?_
        refine x_get (ci := 7) (T := T_Bd) hx hb htb u_Bd hown hK h1 rfl 0 (by decide) (htb _ mw_85) (fun _ h9 => h9) (v := .ref z) rfl d_Bd_count_65 ?_
        refine x_getN (ci := 4) (T := T_Tp) hx hb htb u_Tp hown hK t1 rfl 1 (by decide) (va_Nw.use rfl (hN.1 _ nf_36)) (fun _ h9 => h9) (v := .int (nI S.1.length)) rfl d_Bd_count_68 ?_
        exact x_iret hx hb hr hlocks (by unfold g_cntv; rw [if_neg (by decide), if_neg (by decide), if_neg (by decide), if_pos rfl]) rfl (fun q hq => by cases hq) (Nat.le_refl _) (Nat.le_refl _) d_Bd_count_71
      · refine lv_tableIn (x := 10) (tgt := 72) (off := 55) hx hb d_Bd_count_17 (by decide) (by decide) (by decide) (by decide) ?_
        refine lv_aload_n hx hb d_Bd_count_72 rfl (lv_at hl 0 rfl) ?_
        refine x_get (ci := 7) (T := T_Bd) hx hb htb u_Bd hown hK h1 rfl 6 (by decide) (htb _ mw_91) (fun _ h9 => h9) (v := .int (nI S.2.2.2.2.2.2)) rfl d_Bd_count_73 ?_
        exact x_iret hx hb hr hlocks (by unfold g_cntv; rw [if_neg (by decide), if_neg (by decide), if_neg (by decide), if_neg (by decide), if_pos rfl]) rfl (fun q hq => by cases hq) (Nat.le_refl _) (Nat.le_refl _) d_Bd_count_76
set_option maxHeartbeats 4000000 in
set_option maxRecDepth 100000 in
theorem c_Bd_sync (l : Launch) {D : va_G} {A : Nat → ClassId} {H0 : Heap} {a z : Nat} {S : g_S} (hd : g_D D A a z S H0)  : Met l y_Bd_sync w_Bd_sync { frames := 1, cells := 0, slots := 0, locals := 22 } (x_Pc D A [.ref a] H0) (x_Q (some (.int (nI S.2.2.2.2.2.1.length))) (fun H1 => g_D D A a z (S.1, S.2.1, S.2.2.1, S.2.2.1, S.2.2.2.2.1, [], S.2.2.2.2.2.2 + 1) H1 ∧ g_K (g_M a z) H0 H1)) 0 0 (x_fr (g_Mx a z) H0) := by
  refine Met.ofW (cc := prog_1_method_7_code) (maxL := 2) (ret := (some .int)) (by decide) rfl ?_
  intro p e s m args below meth c s₁ B hml hv
  obtain ⟨rfl, hH, hK, hN⟩ := hv
  obtain ⟨hx, hb, hr, htb, hown, hlocks⟩ := x_start (wd := Cond.code y_Bd_sync prog_1_method_7_code 2 (some .int)) B
  have hl := lv_entry ([.ref a]) (n := 2) (Nat.le_of_ble_eq_true rfl)
  rw [lg_entry_eq]
  generalize (lg_sl ([.ref a]) ++ List.replicate (2 - (lg_sl ([.ref a])).length) Slot.unset).toArray = ls at hl ⊢
  have hl : lv_has ls 2 [(0, .ref a)] := hl
  rw [hH]
  obtain ⟨pa, as, bs, cs, ds, h1, h2, h3, ⟨h4, h4s⟩, ⟨h5, h5s⟩, ⟨h6, h6s⟩, ⟨h7, h7s⟩, h8, h9⟩ := id hd
  have hL : ∀ q ∈ ([] : List Loc), x_fr (g_Mx a z) H0 q.base := fun q hq => by cases hq
  obtain ⟨g5, g51, -⟩ := id h5
  obtain ⟨g7, g71, -⟩ := id h7
  refine lv_aload_n hx hb d_Bd_sync_0 rfl (lv_at hl 0 rfl) ?_
  refine x_get (ci := 7) (T := T_Bd) hx hb htb u_Bd hown hK h1 rfl 4 (by decide) (htb _ mw_89) (fun _ h9 => h9) (v := .ref (z + 8)) rfl d_Bd_sync_1 ?_
  refine x_getN (ci := 6) (T := T_Jo) hx hb htb u_Jo hown hK g71 rfl 1 (by decide) (va_Nw.use rfl (hN.1 _ nf_69)) (fun _ h9 => h9) (v := .int (nI ds.length)) rfl d_Bd_sync_4 ?_
  refine lv_istore_n (lv' := [(1, .int (nI ds.length)), (0, .ref a)]) hx hb d_Bd_sync_7 rfl hl (by decide) rfl (fun ls hl => ?_)
  refine lv_aload_n hx hb d_Bd_sync_8 rfl (lv_at hl 1 rfl) ?_
  refine x_get (ci := 7) (T := T_Bd) hx hb htb u_Bd hown hK h1 rfl 2 (by decide) (htb _ mw_87) (fun _ h9 => h9) (v := .ref (z + 4)) rfl d_Bd_sync_9 ?_
  refine lv_aload_n hx hb d_Bd_sync_12 rfl (lv_at hl 1 rfl) ?_
  refine x_get (ci := 7) (T := T_Bd) hx hb htb u_Bd hown hK h1 rfl 1 (by decide) (htb _ mw_86) (fun _ h9 => h9) (v := .ref (z + 2)) rfl d_Bd_sync_13 ?_
  refine x_call (F := x_fr (g_Mx a z) H0) (va_runV (As := [.ref (z + 2)]) (rest := []) ⟨hx, hb, hml, hown, htb⟩ (c_Fi_copyFrom l h5 h4 h4s (g_M.in (i := 4) (by decide)) (g_M.in (i := 5) (by decide)) (by omega) (by omega) (by omega) (by omega) (by omega)) (x_cV 1 htb mw_119 mw_3 mw_122 mw_120 mw_121 rfl rfl (by decide +kernel) ⟨Nat.le_of_ble_eq_true rfl, Nat.le_of_ble_eq_true rfl⟩) (x_preV hK hN g51 rfl) rfl rfl hl.1 rfl (lv_room (Nat.le_of_ble_eq_true rfl)) d_Bd_sync_16 ⟨Nat.le_of_ble_eq_true rfl, Nat.le_of_ble_eq_true rfl⟩) hL (fun q hq => Or.inl (hq.elim (fun e => e ▸ g_M.in (by decide)) (fun e => e ▸ g_M.in (by decide)))) (fun H1 locs hP hL => ?_)
  refine W.eq (g2 := F0 m 19 ls []) rfl ?_
  obtain ⟨q1, q2⟩ := hP
  have hk1 := q2.K (M := g_M a z) (g_M.in (i := 4) (by decide)) (g_M.in (i := 5) (by decide))
  have hd1 := hd.kept q2 q1 (h4s.kept hk1)
  have h1 := q2.at h1 (by omega) (by omega)
  have h7 := h7.kept (q2.2 _ (by omega) (by omega)) (q2.2 _ (by omega) (by omega))
  obtain ⟨g8, g81, -⟩ := id h7
  refine lv_aload_n hx hb d_Bd_sync_19 rfl (lv_at hl 1 rfl) ?_
  refine x_get (ci := 7) (T := T_Bd) hx hb htb u_Bd hown hK h1 rfl 4 (by decide) (htb _ mw_89) (fun _ h9 => h9) (v := .ref (z + 8)) rfl d_Bd_sync_20 ?_
  refine x_call (F := x_fr (g_Mx a z) H0) (va_runV (As := []) (rest := []) ⟨hx, hb, hml, hown, htb⟩ (c_Jo_clear l h7 (by omega)) (x_cV 0 htb mw_123 mw_4 mw_126 mw_124 mw_125 rfl rfl (by decide +kernel) ⟨Nat.le_of_ble_eq_true rfl, Nat.le_of_ble_eq_true rfl⟩) (x_preV hK hN g81 rfl) rfl rfl hl.1 rfl (lv_room (Nat.le_of_ble_eq_true rfl)) d_Bd_sync_23 ⟨Nat.le_of_ble_eq_true rfl, Nat.le_of_ble_eq_true rfl⟩) hL (fun q hq => Or.inl (hq.elim (fun e => e ▸ g_M.in (by decide)) (fun e => e ▸ g_M.in (by decide)))) (fun H2 locs hP hL => ?_)
  refine W.eq (g2 := F0 m 26 ls []) rfl ?_
  obtain ⟨q3, q4⟩ := hP
  have hk2 := q4.K (M := g_M a z) (g_M.in (i := 8) (by decide)) (g_M.in (i := 9) (by decide))
  have hd2 := hd1.ops q4 q3 g_os.nil
  have h1 := q4.at h1 (by omega) (by omega)
  refine lv_aload_n hx hb d_Bd_sync_26 rfl (lv_at hl 1 rfl) ?_
  refine lv_dup hx hb d_Bd_sync_27 rfl ?_
  refine x_get (ci := 7) (T := T_Bd) hx hb htb u_Bd hown hK h1 rfl 6 (by decide) (htb _ mw_91) (fun _ h9 => h9) (v := .int (nI S.2.2.2.2.2.2)) rfl d_Bd_sync_28 ?_
  refine lv_iconst (v := 1) hx hb d_Bd_sync_31 (by decide) ?_
  refine lv_iadd hx hb d_Bd_sync_32 ?_
  refine x_top (y := nI (S.2.2.2.2.2.2 + 1)) (nI_1 _) ?_
  refine x_put (F := x_fr (g_Mx a z) H0) (ci := 7) (v := .int (nI (S.2.2.2.2.2.2 + 1))) (ty := .int) (T := T_Bd) hx hb htb u_Bd t_Bd t_Bd_ok n_Bd hown hK h1 hL (Or.inl (Or.inl rfl)) rfl 6 (by decide) (htb _ mw_91) (fun _ h9 => h9) rfl (by decide +kernel) rfl rfl (Nat.le_of_ble_eq_true rfl) d_Bd_sync_33 (fun H3 locs q5 hc1 hL => ?_)
  have q5 : va_at D x_cl (a, .inr (7, [.ref z, .ref (z + 2), .ref (z + 4), .ref (z + 6), .ref (z + 8), .ref pa, .int (nI (S.2.2.2.2.2.2 + 1))])) H3 := q5
  refine lv_iload_n hx hb d_Bd_sync_36 rfl (lv_at hl 0 rfl) ?_
  have hk3 : g_K (g_M a z) H2 H3 := g_K.but hc1 (Or.inl rfl)
  exact x_iret hx hb hr hlocks (by rw [h7s.1]) ⟨hd2.obj hc1 q5 (((h3.kept hk1).kept hk2).kept hk3), (hk1.trans hk2).trans hk3⟩ hL (Nat.le_refl _) (Nat.le_refl _) d_Bd_sync_37
set_option maxHeartbeats 4000000 in
set_option maxRecDepth 100000 in
theorem c_Bd_perform (l : Launch) {D : va_G} {A : Nat → ClassId} {H0 : Heap} {a z : Nat} {S : g_S} (hd : g_D D A a z S H0) {b : Nat} {o : g_O} (ho : g_op D A (g_Mx a z) b o H0) (hlt : S.2.2.2.2.2.1.length < 200) : Met l y_Bd_perform w_Bd_perform { frames := 5, cells := 0, slots := 0, locals := 111 } (x_Pc D A [.ref a, .ref b] H0) (x_Q none (fun H1 => g_D D A a z (S.1, S.2.1, g_ap S.2.2.1 o, S.2.2.2.1, S.2.2.2.2.1, S.2.2.2.2.2.1 ++ [o], S.2.2.2.2.2.2 + 1) H1 ∧ g_K (g_M a z) H0 H1 ∧ H1.size = H0.size)) 0 0 (x_fr (g_Mx a z) H0) := by
  refine Met.ofW (cc := prog_1_method_19_code) (maxL := 2) (ret := none) (by decide) rfl ?_
  intro p e s m args below meth c s₁ B hml hv
  obtain ⟨rfl, hH, hK, hN⟩ := hv
  obtain ⟨hx, hb, hr, htb, hown, hlocks⟩ := x_start (wd := Cond.code y_Bd_perform prog_1_method_19_code 2 none) B
  have hl := lv_entry ([.ref a, .ref b]) (n := 2) (Nat.le_of_ble_eq_true rfl)
  rw [lg_entry_eq]
  generalize (lg_sl ([.ref a, .ref b]) ++ List.replicate (2 - (lg_sl ([.ref a, .ref b])).length) Slot.unset).toArray = ls at hl ⊢
  have hl : lv_has ls 2 [(0, .ref a), (1, .ref b)] := hl
  rw [hH]
  obtain ⟨pa, as, bs, cs, ds, h1, h2, h3, ⟨h4, h4s⟩, ⟨h5, h5s⟩, ⟨h6, h6s⟩, ⟨h7, h7s⟩, h8, h9⟩ := id hd
  have hL : ∀ q ∈ ([] : List Loc), x_fr (g_Mx a z) H0 q.base := fun q hq => by cases hq
  obtain ⟨g4, g41, -⟩ := id h4
  obtain ⟨nb, vb, b1, -⟩ := id ho
  refine lv_aload_n hx hb d_Bd_perform_0 rfl (lv_at hl 0 rfl) ?_
  refine x_get (ci := 7) (T := T_Bd) hx hb htb u_Bd hown hK h1 rfl 1 (by decide) (htb _ mw_86) (fun _ h9 => h9) (v := .ref (z + 2)) rfl d_Bd_perform_1 ?_
  refine lv_aload_n hx hb d_Bd_perform_4 rfl (lv_at hl 1 rfl) ?_
  refine x_call (F := x_fr (g_Mx a z) H0) (va_runV (As := [.ref b]) (rest := []) ⟨hx, hb, hml, hown, htb⟩ (c_Fi_apply l h4 h4s ho (g_M.in (i := 2) (by decide)) (g_M.in (i := 3) (by decide)) (by omega)) (x_cV 1 htb mw_402 mw_3 mw_405 mw_403 mw_404 rfl rfl (by decide +kernel) ⟨Nat.le_of_ble_eq_true rfl, Nat.le_of_ble_eq_true rfl⟩) (x_preV hK hN g41 rfl) rfl rfl hl.1 rfl (lv_room (Nat.le_of_ble_eq_true rfl)) d_Bd_perform_5 ⟨Nat.le_of_ble_eq_true rfl, Nat.le_of_ble_eq_true rfl⟩) hL (fun q hq => Or.inl (hq.elim (fun e => e ▸ g_M.in (by decide)) (fun e => e ▸ g_M.in (by decide)))) (fun H1 locs hP hL => ?_)
  refine W.eq (g2 := F0 m 8 ls []) rfl ?_
  obtain ⟨xs, q1, q1s, q2⟩ := hP
  have hk1 := q2.K (M := g_M a z) (g_M.in (i := 2) (by decide)) (g_M.in (i := 3) (by decide))
  have hd1 := hd.now q2 q1 q1s
  have h1 := q2.at h1 (by omega) (by omega)
  have h7 := h7.kept (q2.2 _ (by omega) (by omega)) (q2.2 _ (by omega) (by omega))
  have ho1 := ho.kept hk1
  obtain ⟨g8, g81, -⟩ := id h7
  refine lv_aload_n hx hb d_Bd_perform_8 rfl (lv_at hl 0 rfl) ?_
  refine x_get (ci := 7) (T := T_Bd) hx hb htb u_Bd hown hK h1 rfl 4 (by decide) (htb _ mw_89) (fun _ h9 => h9) (v := .ref (z + 8)) rfl d_Bd_perform_9 ?_
  refine lv_aload_n hx hb d_Bd_perform_12 rfl (lv_at hl 1 rfl) ?_
  refine x_call (F := x_fr (g_Mx a z) H0) (va_runV (As := [.ref b]) (rest := []) ⟨hx, hb, hml, hown, htb⟩ (c_Jo_append l h7 ho1 (by omega) (by rw [h7s.1]; exact hlt)) (x_cV 1 htb mw_415 mw_4 mw_418 mw_416 mw_417 rfl rfl (by decide +kernel) ⟨Nat.le_of_ble_eq_true rfl, Nat.le_of_ble_eq_true rfl⟩) (x_preV hK hN g81 rfl) rfl rfl hl.1 rfl (lv_room (Nat.le_of_ble_eq_true rfl)) d_Bd_perform_13 ⟨Nat.le_of_ble_eq_true rfl, Nat.le_of_ble_eq_true rfl⟩) hL (fun q hq => Or.inl (hq.elim (fun e => e ▸ g_M.in (by decide)) (fun e => e ▸ g_M.in (by decide)))) (fun H2 locs hP hL => ?_)
  refine W.eq (g2 := F0 m 16 ls []) rfl ?_
  obtain ⟨q3, q4⟩ := hP
  have hk2 := q4.K (M := g_M a z) (g_M.in (i := 8) (by decide)) (g_M.in (i := 9) (by decide))
  have hd2 := hd1.ops q4 q3 (((h7s.kept hk1).kept hk2).push (ho1.kept hk2))
  have h1 := q4.at h1 (by omega) (by omega)
  refine lv_aload_n hx hb d_Bd_perform_16 rfl (lv_at hl 0 rfl) ?_
  refine lv_dup hx hb d_Bd_perform_17 rfl ?_
  refine x_get (ci := 7) (T := T_Bd) hx hb htb u_Bd hown hK h1 rfl 6 (by decide) (htb _ mw_91) (fun _ h9 => h9) (v := .int (nI S.2.2.2.2.2.2)) rfl d_Bd_perform_18 ?_
  refine lv_iconst (v := 1) hx hb d_Bd_perform_21 (by decide) ?_
  refine lv_iadd hx hb d_Bd_perform_22 ?_
  refine x_top (y := nI (S.2.2.2.2.2.2 + 1)) (nI_1 _) ?_
  refine x_put (F := x_fr (g_Mx a z) H0) (ci := 7) (v := .int (nI (S.2.2.2.2.2.2 + 1))) (ty := .int) (T := T_Bd) hx hb htb u_Bd t_Bd t_Bd_ok n_Bd hown hK h1 hL (Or.inl (Or.inl rfl)) rfl 6 (by decide) (htb _ mw_91) (fun _ h9 => h9) rfl (by decide +kernel) rfl rfl (Nat.le_of_ble_eq_true rfl) d_Bd_perform_23 (fun H3 locs q5 hc2 hL => ?_)
  have q5 : va_at D x_cl (a, .inr (7, [.ref z, .ref (z + 2), .ref (z + 4), .ref (z + 6), .ref (z + 8), .ref pa, .int (nI (S.2.2.2.2.2.2 + 1))])) H3 := q5
  have hk3 : g_K (g_M a z) H2 H3 := g_K.but hc2 (Or.inl rfl)
  exact x_vret hx hb hr hlocks ⟨hd2.obj hc2 q5 (((h3.kept hk1).kept hk2).kept hk3), (hk1.trans hk2).trans hk3, by rw [hc2.1, q4.1, q2.1]⟩ hL (Nat.le_refl _) (Nat.le_refl _) d_Bd_perform_26
set_option maxHeartbeats 4000000 in
set_option maxRecDepth 100000 in
theorem c_Bd_breakOff (l : Launch) {D : va_G} {A : Nat → ClassId} {H0 : Heap} {a z : Nat} {S : g_S} (hd : g_D D A a z S H0) {n : Int32} (hn : ¬ n < 0) : Met l y_Bd_breakOff w_Bd_breakOff { frames := 6, cells := 0, slots := 0, locals := 135 } (x_Pc D A [.ref a, .int n] H0) (x_Q (some (.int (nI (min n.toNatClampNeg S.2.2.2.2.2.1.length)))) (fun H1 => g_D D A a z (S.1, S.2.1, g_rep S.2.2.2.1 (S.2.2.2.2.2.1.take (min n.toNatClampNeg S.2.2.2.2.2.1.length)), g_rep S.2.2.2.1 (S.2.2.2.2.2.1.take (min n.toNatClampNeg S.2.2.2.2.2.1.length)), S.2.2.2.2.1, [], S.2.2.2.2.2.2) H1 ∧ g_K (g_M a z) H0 H1)) 0 0 (x_fr (g_Mx a z) H0) := by
  refine Met.ofW (cc := prog_1_method_8_code) (maxL := 3) (ret := (some .int)) (by decide) rfl ?_
  intro p e s m args below meth c s₁ B hml hv
  obtain ⟨rfl, hH, hK, hN⟩ := hv
  obtain ⟨hx, hb, hr, htb, hown, hlocks⟩ := x_start (wd := Cond.code y_Bd_breakOff prog_1_method_8_code 3 (some .int)) B
  have hl := lv_entry ([.ref a, .int n]) (n := 3) (Nat.le_of_ble_eq_true rfl)
  rw [lg_entry_eq]
  generalize (lg_sl ([.ref a, .int n]) ++ List.replicate (3 - (lg_sl ([.ref a, .int n])).length) Slot.unset).toArray = ls at hl ⊢
  have hl : lv_has ls 3 [(0, .ref a), (1, .int n)] := hl
  rw [hH]
  obtain ⟨pa, as, bs, cs, ds, h1, h2, h3, ⟨h4, h4s⟩, ⟨h5, h5s⟩, ⟨h6, h6s⟩, ⟨h7, h7s⟩, h8, h9⟩ := id hd
  have hL : ∀ q ∈ ([] : List Loc), x_fr (g_Mx a z) H0 q.base := fun q hq => by cases hq
  obtain ⟨g7, g71, g72, g73, g74⟩ := id h7
  obtain ⟨j, hj31, rfl⟩ := nI_of hn
  rw [nI_clamp hj31]
  generalize hkk : min j S.2.2.2.2.2.1.length = k
  refine lv_iload_n hx hb d_Bd_breakOff_0 rfl (lv_at hl 1 rfl) ?_
  refine lv_if_ge (tgt := 14) hx hb d_Bd_breakOff_1 (by decide) (fun _ => ?_) (fun c9 => absurd (nI_pos' hj31) c9)
  refine lv_iload_n hx hb d_Bd_breakOff_14 rfl (lv_at hl 1 rfl) ?_
  refine lv_aload_n hx hb d_Bd_breakOff_15 rfl (lv_at hl 0 rfl) ?_
  refine x_get (ci := 7) (T := T_Bd) hx hb htb u_Bd hown hK h1 rfl 4 (by decide) (htb _ mw_89) (fun _ h9 => h9) (v := .ref (z + 8)) rfl d_Bd_breakOff_16 ?_
  refine x_getN (ci := 6) (T := T_Jo) hx hb htb u_Jo hown hK g71 rfl 1 (by decide) (va_Nw.use rfl (hN.1 _ nf_69)) (fun _ h9 => h9) (v := .int (nI ds.length)) rfl d_Bd_breakOff_19 ?_
  refine va_mmin hx hb (by rw [hml]; exact hl.1.symm) hown (htb _ mw_446) (htb _ mw_304) (htb _ mw_12) (show (Cond.code Lib.Math.min.name Lib.Math.min.code 2 (some .int)).before _ s = true from htb _ mw_305) (Nat.le_of_ble_eq_true rfl) (Nat.le_of_ble_eq_true rfl) (Nat.le_of_ble_eq_true rfl) (Nat.le_of_ble_eq_true rfl) d_Bd_breakOff_22 ?_
  have hmin : (if nI ds.length < nI j then nI ds.length else nI j) = nI k := by
    rw [← hkk, ← h7s.1]
    by_cases q : nI ds.length < nI j
    · rw [if_pos q, Nat.min_eq_right (Nat.le_of_not_lt fun w => absurd q (nI_nlt (by omega) (by omega)))]
    · rw [if_neg q, Nat.min_eq_left (Nat.le_of_not_lt fun w => q (nI_lt w hj31))]
  have hkd : k ≤ ds.length := by rw [← hkk, h7s.1]; exact Nat.min_le_right _ _
  refine x_top (y := nI k) (hmin) ?_
  refine lv_istore_n (lv' := [(2, .int (nI k)), (0, .ref a), (1, .int (nI j))]) hx hb d_Bd_breakOff_25 rfl hl (by decide) rfl (fun ls hl => ?_)
  refine lv_aload_n hx hb d_Bd_breakOff_26 rfl (lv_at hl 1 rfl) ?_
  refine x_get (ci := 7) (T := T_Bd) hx hb htb u_Bd hown hK h1 rfl 4 (by decide) (htb _ mw_89) (fun _ h9 => h9) (v := .ref (z + 8)) rfl d_Bd_breakOff_27 ?_
  refine lv_iload_n hx hb d_Bd_breakOff_30 rfl (lv_at hl 0 rfl) ?_
  refine lv_aload_n hx hb d_Bd_breakOff_31 rfl (lv_at hl 1 rfl) ?_
  refine x_get (ci := 7) (T := T_Bd) hx hb htb u_Bd hown hK h1 rfl 2 (by decide) (htb _ mw_87) (fun _ h9 => h9) (v := .ref (z + 4)) rfl d_Bd_breakOff_32 ?_
  refine x_call (F := x_fr (g_Mx a z) H0) (va_runV (As := [.int (nI k), .ref (z + 4)]) (rest := []) ⟨hx, hb, hml, hown, htb⟩ (c_Jo_replayFirst l h7 h7s h5 h5s (g_M.in (i := 4) (by decide)) (g_M.in (i := 5) (by decide)) (by omega) (by omega) (by omega) (by omega) (by omega) hkd) (x_cV 2 htb mw_447 mw_4 mw_450 mw_448 mw_449 rfl rfl (by decide +kernel) ⟨Nat.le_of_ble_eq_true rfl, Nat.le_of_ble_eq_true rfl⟩) (x_preV hK hN g71 rfl) rfl rfl hl.1 rfl (lv_room (Nat.le_of_ble_eq_true rfl)) d_Bd_breakOff_35 ⟨Nat.le_of_ble_eq_true rfl, Nat.le_of_ble_eq_true rfl⟩) hL (fun q hq => Or.inl (hq.elim (fun e => e ▸ g_M.in (by decide)) (fun e => e ▸ g_M.in (by decide)))) (fun H1 locs hP hL => ?_)
  refine W.eq (g2 := F0 m 38 ls []) rfl ?_
  obtain ⟨xs, q1, q1s, q2⟩ := hP
  have hk1 := q2.K (M := g_M a z) (g_M.in (i := 4) (by decide)) (g_M.in (i := 5) (by decide))
  have hd1 := hd.kept q2 q1 q1s
  have h1 := q2.at h1 (by omega) (by omega)
  have h4 := h4.kept (q2.2 _ (by omega) (by omega)) (q2.2 _ (by omega) (by omega))
  have h7 := h7.kept (q2.2 _ (by omega) (by omega)) (q2.2 _ (by omega) (by omega))
  obtain ⟨g4, g41, -⟩ := id h4
  refine lv_aload_n hx hb d_Bd_breakOff_38 rfl (lv_at hl 1 rfl) ?_
  refine x_get (ci := 7) (T := T_Bd) hx hb htb u_Bd hown hK h1 rfl 1 (by decide) (htb _ mw_86) (fun _ h9 => h9) (v := .ref (z + 2)) rfl d_Bd_breakOff_39 ?_
  refine lv_aload_n hx hb d_Bd_breakOff_42 rfl (lv_at hl 1 rfl) ?_
  refine x_get (ci := 7) (T := T_Bd) hx hb htb u_Bd hown hK h1 rfl 2 (by decide) (htb _ mw_87) (fun _ h9 => h9) (v := .ref (z + 4)) rfl d_Bd_breakOff_43 ?_
  refine x_call (F := x_fr (g_Mx a z) H0) (va_runV (As := [.ref (z + 4)]) (rest := []) ⟨hx, hb, hml, hown, htb⟩ (c_Fi_copyFrom l h4 q1 q1s (g_M.in (i := 2) (by decide)) (g_M.in (i := 3) (by decide)) (by omega) (by omega) (by omega) (by omega) (by omega)) (x_cV 1 htb mw_119 mw_3 mw_122 mw_120 mw_121 rfl rfl (by decide +kernel) ⟨Nat.le_of_ble_eq_true rfl, Nat.le_of_ble_eq_true rfl⟩) (x_preV hK hN g41 rfl) rfl rfl hl.1 rfl (lv_room (Nat.le_of_ble_eq_true rfl)) d_Bd_breakOff_46 ⟨Nat.le_of_ble_eq_true rfl, Nat.le_of_ble_eq_true rfl⟩) hL (fun q hq => Or.inl (hq.elim (fun e => e ▸ g_M.in (by decide)) (fun e => e ▸ g_M.in (by decide)))) (fun H2 locs hP hL => ?_)
  refine W.eq (g2 := F0 m 49 ls []) rfl ?_
  obtain ⟨q3, q4⟩ := hP
  have hk2 := q4.K (M := g_M a z) (g_M.in (i := 2) (by decide)) (g_M.in (i := 3) (by decide))
  have hd2 := hd1.now q4 q3 (q1s.kept hk2)
  have h1 := q4.at h1 (by omega) (by omega)
  have h7 := h7.kept (q4.2 _ (by omega) (by omega)) (q4.2 _ (by omega) (by omega))
  obtain ⟨g8, g81, -⟩ := id h7
  refine lv_aload_n hx hb d_Bd_breakOff_49 rfl (lv_at hl 1 rfl) ?_
  refine x_get (ci := 7) (T := T_Bd) hx hb htb u_Bd hown hK h1 rfl 4 (by decide) (htb _ mw_89) (fun _ h9 => h9) (v := .ref (z + 8)) rfl d_Bd_breakOff_50 ?_
  refine x_call (F := x_fr (g_Mx a z) H0) (va_runV (As := []) (rest := []) ⟨hx, hb, hml, hown, htb⟩ (c_Jo_clear l h7 (by omega)) (x_cV 0 htb mw_123 mw_4 mw_126 mw_124 mw_125 rfl rfl (by decide +kernel) ⟨Nat.le_of_ble_eq_true rfl, Nat.le_of_ble_eq_true rfl⟩) (x_preV hK hN g81 rfl) rfl rfl hl.1 rfl (lv_room (Nat.le_of_ble_eq_true rfl)) d_Bd_breakOff_53 ⟨Nat.le_of_ble_eq_true rfl, Nat.le_of_ble_eq_true rfl⟩) hL (fun q hq => Or.inl (hq.elim (fun e => e ▸ g_M.in (by decide)) (fun e => e ▸ g_M.in (by decide)))) (fun H3 locs hP hL => ?_)
  refine W.eq (g2 := F0 m 56 ls []) rfl ?_
  obtain ⟨q5, q6⟩ := hP
  have hk3 := q6.K (M := g_M a z) (g_M.in (i := 8) (by decide)) (g_M.in (i := 9) (by decide))
  refine lv_iload_n hx hb d_Bd_breakOff_56 rfl (lv_at hl 0 rfl) ?_
  exact x_iret hx hb hr hlocks rfl ⟨hd2.ops q6 q5 g_os.nil, (hk1.trans hk2).trans hk3⟩ hL (Nat.le_refl _) (Nat.le_refl _) d_Bd_breakOff_57
set_option maxHeartbeats 4000000 in
set_option maxRecDepth 100000 in
theorem c_Bd_path (l : Launch) {D : va_G} {A : Nat → ClassId} {H0 : Heap} {a z : Nat} {S : g_S} (hd : g_D D A a z S H0) (hlen : S.1.length ≤ 100) : Met l y_Bd_path w_Bd_path { frames := 3, cells := 2, slots := 401, locals := 103 } (x_Pc D A [.ref a] H0) (x_Q (some (.int (nI S.1.length))) (fun H1 => g_D D A a z ([], S.1, S.2.2.1, S.2.2.2.1, S.2.2.2.2.1, S.2.2.2.2.2.1, S.2.2.2.2.2.2) H1 ∧ g_K (g_M a z) H0 H1)) 2 401 (x_fr (g_Mx a z) H0) := by
  refine Met.ofW (cc := prog_1_method_3_code) (maxL := 1) (ret := (some .int)) (by decide) rfl ?_
  intro p e s m args below meth c s₁ B hml hv
  obtain ⟨rfl, hH, hK, hN⟩ := hv
  obtain ⟨hx, hb, hr, htb, hown, hlocks⟩ := x_start (wd := Cond.code y_Bd_path prog_1_method_3_code 1 (some .int)) B
  have hl := lv_entry ([.ref a]) (n := 1) (Nat.le_of_ble_eq_true rfl)
  rw [lg_entry_eq]
  generalize (lg_sl ([.ref a]) ++ List.replicate (1 - (lg_sl ([.ref a])).length) Slot.unset).toArray = ls at hl ⊢
  have hl : lv_has ls 1 [(0, .ref a)] := hl
  rw [hH]
  obtain ⟨pa, as, bs, cs, ds, h1, h2, h3, ⟨h4, h4s⟩, ⟨h5, h5s⟩, ⟨h6, h6s⟩, ⟨h7, h7s⟩, h8, h9⟩ := id hd
  have hL : ∀ q ∈ ([] : List Loc), x_fr (g_Mx a z) H0 q.base := fun q hq => by cases hq
  obtain ⟨f, t1, -⟩ := id h2
  refine lv_aload_n hx hb d_Bd_path_0 rfl (lv_at hl 0 rfl) ?_
  refine x_get (ci := 7) (T := T_Bd) hx hb htb u_Bd hown hK h1 rfl 0 (by decide) (htb _ mw_85) (fun _ h9 => h9) (v := .ref z) rfl d_Bd_path_1 ?_
  refine x_getN (ci := 4) (T := T_Tp) hx hb htb u_Tp hown hK t1 rfl 1 (by decide) (va_Nw.use rfl (hN.1 _ nf_36)) (fun _ h9 => h9) (v := .int (nI S.1.length)) rfl d_Bd_path_4 ?_
  refine lv_bipush (v := 100) hx hb d_Bd_path_7 (by decide) ?_
  refine lv_icmp_le (tgt := 22) hx hb d_Bd_path_9 (by decide) (fun _ => ?_) (fun c9 => absurd (nI_le (a := S.1.length) (b := 100) hlen (by omega)) c9)
  refine lv_aload_n hx hb d_Bd_path_22 rfl (lv_at hl 0 rfl) ?_
  refine lv_aload_n hx hb d_Bd_path_23 rfl (lv_at hl 0 rfl) ?_
  refine x_get (ci := 7) (T := T_Bd) hx hb htb u_Bd hown hK h1 rfl 0 (by decide) (htb _ mw_85) (fun _ h9 => h9) (v := .ref z) rfl d_Bd_path_24 ?_
  refine x_call (F := x_fr (g_Mx a z) H0) (va_runV (As := []) (rest := [.ref a]) ⟨hx, hb, hml, hown, htb⟩ (c_Tp_take l (M := g_Mx a z) h2 (g_M.in (i := 0) (by decide)) (g_M.in (i := 1) (by decide)) hd.new (by omega)) (x_cV 0 htb mw_288 mw_2 mw_291 mw_289 mw_290 rfl rfl (by decide +kernel) ⟨Nat.le_of_ble_eq_true rfl, Nat.le_of_ble_eq_true rfl⟩) (x_preV hK hN t1 rfl) rfl rfl hl.1 rfl (lv_room (Nat.le_of_ble_eq_true rfl)) d_Bd_path_27 ⟨Nat.le_of_ble_eq_true rfl, Nat.le_of_ble_eq_true rfl⟩) hL (fun q hq => hq) (fun H1 locs hP hL => ?_)
  refine W.eq (g2 := F0 m 30 ls [.ref H0.size, .ref a]) rfl ?_
  obtain ⟨q1, q2, q3⟩ := hP
  have hd1 := hd.tape1 q3 q2
  have q3 : g_K (g_M a z) H0 H1 := ⟨q3.1, fun q h hM => q3.2 q h (fun e => hM (e ▸ g_M.in (i := 0) (by decide))) (fun e => hM (e ▸ g_M.in (by decide)))⟩
  obtain ⟨pa, as, bs, cs, ds, h1, h2, h3, ⟨h4, h4s⟩, ⟨h5, h5s⟩, ⟨h6, h6s⟩, ⟨h7, h7s⟩, h8, h9⟩ := id hd1
  refine x_put (F := x_fr (g_Mx a z) H0) (ci := 7) (v := .ref H0.size) (ty := .object "BreakingDisk$Bytes") (T := T_Bd) hx hb htb u_Bd t_Bd t_Bd_ok n_Bd hown hK h1 hL (Or.inl (Or.inl rfl)) rfl 5 (by decide) (htb _ mw_90) (fun _ h9 => h9) rfl (by decide +kernel) rfl rfl (Nat.le_of_ble_eq_true rfl) d_Bd_path_30 (fun H2 locs q5 hc3 hL => ?_)
  have q5 : va_at D x_cl (a, .inr (7, [.ref z, .ref (z + 2), .ref (z + 4), .ref (z + 6), .ref (z + 8), .ref H0.size, .int (nI S.2.2.2.2.2.2)])) H2 := q5
  have hk2 : g_K (g_M a z) H1 H2 := g_K.but hc3 (Or.inl rfl)
  have q1 := q1.kept hk2
  obtain ⟨pr, r1, -⟩ := id q1
  refine lv_aload_n hx hb d_Bd_path_33 rfl (lv_at hl 0 rfl) ?_
  refine x_get (ci := 7) (T := T_Bd) hx hb htb u_Bd hown hK q5 rfl 5 (by decide) (htb _ mw_90) (fun _ h9 => h9) (v := .ref H0.size) rfl d_Bd_path_34 ?_
  refine x_callP (va_runV (As := []) (rest := []) ⟨hx, hb, hml, hown, htb⟩ (c_By_length l q1) (x_cV 0 htb mw_177 mw_5 mw_180 mw_178 mw_179 rfl rfl (by decide +kernel) ⟨Nat.le_of_ble_eq_true rfl, Nat.le_of_ble_eq_true rfl⟩) (x_preV hK hN r1 rfl) rfl rfl hl.1 rfl (lv_room (Nat.le_of_ble_eq_true rfl)) d_Bd_path_37 ⟨Nat.le_of_ble_eq_true rfl, Nat.le_of_ble_eq_true rfl⟩) ?_
  refine W.eq (g2 := F0 m 40 ls [.int (nI S.1.length)]) rfl ?_
  exact x_iret hx hb hr hlocks rfl ⟨hd1.obj hc3 q5 q1, q3.trans hk2⟩ hL (Nat.le_refl _) (Nat.le_refl _) d_Bd_path_40
end
section
/-! THROWS: contracts of calls that end in an exception; leaving a method by one; catching one by name, the row's class resolved or not. (The rows on statics, vx_L to vx_isRefq, are pasted from the claim's printed names.) -/
/-- where a static field lies, its class's statics cell in H -/
def vx_L (C n d : String) (A : Nat → Prop) (U : State) (H : Heap) : Prop := ∃ (c : ClassId) (k : Class) (i : Nat) (f : Field) (a : Nat) (cell : Cell), U.vm.findClass C = some c ∧ U.fieldFound? C n d = some (c, k, i, f) ∧ f.isStatic = true ∧ k.statics = some a ∧ H[a]? = some cell ∧ cell.vm.isStatics = true ∧ cell.cls = c ∧ f.slot < cell.slots.size ∧ k.staticTypes[f.slot]? = some f.type ∧ ¬ A a
theorem vx_L.moved {C n d : String} {A : Nat → Prop} {u U : State} {H : Heap} (hvm : u.vm.Alike U.vm) (h : vx_L C n d A u H) : vx_L C n d A U H := by
  obtain ⟨c, k, i, f, a, cell, h1, h2, h3, h4, h5, h6, h7, h8, h9, h10⟩ := h
  obtain ⟨k', hi', he⟩ := State.fieldFound?_setVm hvm h2
  exact ⟨c, k', i, f, a, cell, by rw [hvm.findClass]; exact h1, hi', h3, by rw [he]; exact h4, h5, h6, h7, h8, by rw [he]; exact h9, h10⟩
theorem vx_L.kept {C n d : String} {A : Nat → Prop} {U : State} {H H1 : Heap} (h : vx_L C n d A U H) (hq : ∀ a : Nat, a < H.size → ¬ A a → H1[a]? = H[a]?) : vx_L C n d A U H1 := by
  obtain ⟨c, k, i, f, a, cell, h1, h2, h3, h4, h5, h6, h7, h8, h9, h10⟩ := h
  exact ⟨c, k, i, f, a, cell, h1, h2, h3, h4, by rw [hq a (Array.getElem?_eq_some_iff.mp h5).1 h10]; exact h5, h6, h7, h8, h9, h10⟩
theorem vx_L.narrow {C n d : String} {A B : Nat → Prop} {U : State} {H : Heap} (h : vx_L C n d A U H) (hAB : ∀ q, B q → A q) : vx_L C n d B U H := by
  obtain ⟨c, k, i, f, a, cell, h1, h2, h3, h4, h5, h6, h7, h8, h9, h10⟩ := h
  exact ⟨c, k, i, f, a, cell, h1, h2, h3, h4, h5, h6, h7, h8, h9, fun z => h10 (hAB _ z)⟩
theorem vx_L.word {C n d : String} {A : Nat → Prop} {s : State} {args : Array Value} (h : vx_L C n d A s s.heap) : (Cond.laysStatic C n d).before args s = true := by
  obtain ⟨c, k, i, f, a, cell, h1, h2, h3, h4, h5, h6, h7, h8, h9, -⟩ := h
  show (Cond.laysStatic C n d).holds args s none s [] = true
  exact Cond.laysStatic_of h1 h2 h3 h4 h5 h6 h7 h8 h9
/-- .. and what it holds: null or some reference -/
def vx_Zq (C n d : String) (A : Nat → Prop) (U : State) (H : Heap) : Prop := va_Zq C n d A U H ∧ vx_L C n d A U H
theorem vx_Zq.moved {C n d : String} {A : Nat → Prop} {u U : State} {H : Heap} (hvm : u.vm.Alike U.vm) (h : vx_Zq C n d A u H) : vx_Zq C n d A U H := ⟨va_Zq.moved hvm h.1, vx_L.moved hvm h.2⟩
theorem vx_Zq.kept {C n d : String} {A : Nat → Prop} {U : State} {H H1 : Heap} (h : vx_Zq C n d A U H) (hq : ∀ a : Nat, a < H.size → ¬ A a → H1[a]? = H[a]?) : vx_Zq C n d A U H1 := ⟨va_Zq.kept h.1 hq, vx_L.kept h.2 hq⟩
theorem vx_Zq.narrow {C n d : String} {A B : Nat → Prop} {U : State} {H : Heap} (h : vx_Zq C n d A U H) (hAB : ∀ q, B q → A q) : vx_Zq C n d B U H := ⟨va_Zq.narrow h.1 hAB, vx_L.narrow h.2 hAB⟩
theorem vx_Zqof {args : Array Value} {s : State} {C n d : String} {A : Nat → Prop} (hl : (Cond.laysStatic C n d).before args s = true) (hini : (Cond.initialized C).before args s = true) (h : (Cond.isRef (.static C n d)).before args s = true) (hA : ∀ a : Nat, a < s.heap.size → ¬ A a) : vx_Zq C n d A s s.heap := by
  refine ⟨va_Zqof hl hini h hA, ?_⟩
  obtain ⟨c, k, i, f, a, cell, h1, h2, h3, h4, h5, h6, h7, h8, h9⟩ := Cond.laysStatic_spec hl
  exact ⟨c, k, i, f, a, cell, h1, h2, h3, h4, h5, h6, h7, h8, h9, hA a (Array.getElem?_eq_some_iff.mp h5).1⟩
theorem vx_isRef {C n d : String} {v : Value} {A : Nat → Prop} {s : State} {args : Array Value} (h : va_Z C n d v A s s.heap) (hv : v.isRef = true) : (Cond.isRef (.static C n d)).before args s = true := by
  obtain ⟨cf, kf, fi, f, a, cell, h1, h2, h3, h4, h5, h6, h7, -⟩ := h
  have he : (Term.static C n d).eval args s none [] s = some v := by
    simp [Term.eval, State.fieldNamed?, h1, h2, h4, h5, h6, h7]
  simp only [Cond.before, Cond.holds, Cond.value, he]
  cases v <;> simp_all [Value.isRef]
theorem vx_isRefq {C n d : String} {A : Nat → Prop} {s : State} {args : Array Value} (h : va_Zq C n d A s s.heap) : (Cond.isRef (.static C n d)).before args s = true := by
  rcases h with h | ⟨t, h⟩
  · exact vx_isRef h rfl
  · exact vx_isRef h rfl
/-- Throwable's two statics: references, that M doesn't name -/
def x_T (M : Nat → Prop) (U : State) (H : Heap) : Prop := vx_Zq "java/lang/Throwable" "UNASSIGNED_STACK" "[Ljava/lang/StackTraceElement;" M U H ∧ vx_Zq "java/lang/Throwable" "SUPPRESSED_SENTINEL" "Ljava/util/List;" M U H
theorem x_T.kept {M N : Nat → Prop} {U : State} {H H1 : Heap} (h : x_T M U H) (hk : g_K N H H1) (hNM : ∀ q, N q → M q := by first | exact fun _ h => h | exact fun _ h => h.elim Or.inl (fun h => Or.inr (Or.inl h))) : x_T M U H1 := ⟨h.1.kept (fun q h1 h2 => hk.2 q h1 (fun e => h2 (hNM _ e))), h.2.kept (fun q h1 h2 => hk.2 q h1 (fun e => h2 (hNM _ e)))⟩
theorem x_T.moved {M : Nat → Prop} {u U : State} {H : Heap} (h : x_T M u H) (hv : u.vm.Alike U.vm) : x_T M U H := ⟨vx_Zq.moved hv h.1, vx_Zq.moved hv h.2⟩
def x_PcT (D : va_G) (A : Nat → ClassId) (M : Nat → Prop) (av : List Value) (H0 : Heap) : Array Value → State → Prop := va_Pc av (fun U => U.heap = H0 ∧ va_K D x_cl (x_tys A) U ∧ x_E U ∧ x_T M U H0)
theorem x_blindT {D : va_G} {A : Nat → ClassId} {M : Nat → Prop} {av : List Value} {H0 : Heap} : FrameBlind (x_PcT D A M av H0) := fun a U g mk q => by
  obtain ⟨q0, q1, q2, q3, q4⟩ := q
  exact ⟨q0, q1, va_K.moved (u := U) (U := U.calling g mk a) (Vm.Alike.refl U.vm) q2, x_E.same (s := U) (U := U.calling g mk a) rfl q3, x_T.moved (u := U) (U := U.calling g mk a) q4 (Vm.Alike.refl U.vm)⟩
theorem x_preST {D : va_G} {A : Nat → ClassId} {M : Nat → Prop} {As : List Value} {H : Heap} {s : State} (hK : va_K D x_cl (x_tys A) s) (hN : x_E s) (hT : x_T M s H) : PreS s H (x_PcT D A M As H) As :=
  ⟨x_blindT, fun U hU hW => ⟨rfl, hU, va_K.moved hW.alike hK, hN.warm hW, hT.moved hW.alike⟩⟩
theorem x_preVT {D : va_G} {A : Nat → ClassId} {M : Nat → Prop} {As : List Value} {H : Heap} {s : State} {b ci : Nat} {fs : List Value} {q : vw_C} (hK : va_K D x_cl (x_tys A) s) (hN : x_E s) (hT : x_T M s H) (h : va_at D x_cl (b, .inr (ci, fs)) H) (hc : x_cl[ci]? = some q) : PreV s H q.1 b (x_PcT D A M (.ref b :: As) H) As :=
  ⟨x_blindT, va_recv hK (x_P1 h) (ci := ci) (q0 := 0) hc rfl, fun U hU hW => ⟨rfl, hU, va_K.moved hW.alike hK, hN.warm hW, hT.moved hW.alike⟩⟩
def x_ow : List Cond := x_tb ++ (x_nf ++ [.isRef (.static "java/lang/Throwable" "UNASSIGNED_STACK" "[Ljava/lang/StackTraceElement;"), .isRef (.static "java/lang/Throwable" "SUPPRESSED_SENTINEL" "Ljava/util/List;"), .laysStatic "java/lang/Throwable" "UNASSIGNED_STACK" "[Ljava/lang/StackTraceElement;", .laysStatic "java/lang/Throwable" "SUPPRESSED_SENTINEL" "Ljava/util/List;"])
abbrev x_up : List String := ["java/lang/RuntimeException", "java/lang/Exception"]
theorem ow_60 : ∀ w ∈ Bundle.ownAtoms "BreakingDisk" 60 "java/lang/IllegalArgumentException" x_up, w ∈ x_ow := by decide +kernel
theorem ow_90 : ∀ w ∈ Bundle.ownAtoms "BreakingDisk" 90 "java/lang/IllegalStateException" x_up, w ∈ x_ow := by decide +kernel
theorem ow_171 : ∀ w ∈ Bundle.ownAtoms "BreakingDisk" 171 "java/lang/IndexOutOfBoundsException" x_up, w ∈ x_ow := by decide +kernel
theorem x_nf_any : ∀ w ∈ x_nf, ∀ (args : Array Value) (U : State), va_Nw w U → w.before args U = true := List.forall_mem_cons.mpr ⟨fun _ _ q => va_Nw.use rfl q, List.forall_mem_cons.mpr ⟨fun _ _ q => va_Nw.use rfl q, List.forall_mem_cons.mpr ⟨fun _ _ q => va_Nw.use rfl q, List.forall_mem_cons.mpr ⟨fun _ _ q => va_AO.use q, List.forall_mem_cons.mpr ⟨fun _ _ q => va_Nw.use rfl q, List.forall_mem_cons.mpr ⟨fun _ _ q => va_Nw.use rfl q, List.forall_mem_cons.mpr ⟨fun _ _ q => va_AO.use q, List.forall_mem_cons.mpr ⟨fun _ _ q => va_Nw.use rfl q, List.forall_mem_cons.mpr ⟨fun _ _ q => va_Nw.use rfl q, List.forall_mem_cons.mpr ⟨fun _ _ q => va_Nw.use rfl q, List.forall_mem_cons.mpr ⟨fun _ _ q => va_Nw.use rfl q, List.forall_mem_cons.mpr ⟨fun _ _ q => va_Nw.use rfl q, List.forall_mem_cons.mpr ⟨fun _ _ q => va_Nw.use rfl q, List.forall_mem_cons.mpr ⟨fun _ _ q => va_Nw.use rfl q, List.forall_mem_cons.mpr ⟨fun _ _ q => va_Nw.use rfl q, List.forall_mem_cons.mpr ⟨fun _ _ q => va_Nw.use rfl q, List.forall_mem_cons.mpr ⟨fun _ _ q => va_Nw.use rfl q, List.forall_mem_cons.mpr ⟨fun _ _ q => va_Nw.use rfl q, List.forall_mem_cons.mpr ⟨fun _ _ q => va_Nw.use rfl q, List.forall_mem_cons.mpr ⟨fun _ _ q => va_Nw.use rfl q, List.forall_mem_cons.mpr ⟨fun _ _ q => va_Nw.use rfl q, List.forall_mem_cons.mpr ⟨fun _ _ q => va_Nw.use rfl q, List.forall_mem_cons.mpr ⟨fun _ _ q => va_Nw.use rfl q, List.forall_mem_cons.mpr ⟨fun _ _ q => va_Nw.use rfl q, List.forall_mem_cons.mpr ⟨fun _ _ q => va_Nw.use rfl q, List.forall_mem_cons.mpr ⟨fun _ _ q => va_Nw.use rfl q, fun _ h => absurd h List.not_mem_nil⟩⟩⟩⟩⟩⟩⟩⟩⟩⟩⟩⟩⟩⟩⟩⟩⟩⟩⟩⟩⟩⟩⟩⟩⟩⟩
theorem x_own {M : Nat → Prop} {s : State} {args : Array Value} (htb : ∀ w ∈ x_tb, w.before args s = true) (hN : x_E s) (hT : x_T M s s.heap) : ∀ w ∈ x_ow, w.before args s = true := fun w hw => by
  rcases List.mem_append.mp hw with h | h
  · exact htb w h
  · rcases List.mem_append.mp h with h | h
    · exact x_nf_any w h args s (hN.1 w h)
    · rcases List.mem_cons.mp h with rfl | h
      · exact vx_isRefq hT.1.1
      · rcases List.mem_cons.mp h with rfl | h
        · exact vx_isRefq hT.2.1
        · rcases List.mem_cons.mp h with rfl | h
          · exact hT.1.2.word
          · rcases List.mem_cons.mp h with rfl | h
            · exact hT.2.2.word
            · cases h
def x_MetT (l : Launch) (y : MethodName) (ws : List Cond) (rm : Room) (Pc : Array Value → State → Prop) (Qc : Array Value → State → Outcome → State → Prop) (mc ms : Nat) (free : Addr → Prop) : Prop :=
  MetFree l y (headSpec ws rm) Pc (fun _ _ _ _ _ => True) (fun a st o t => Qc a st o t ∧ ∃ L, FramedT st o t L mc ms ∧ ∀ q ∈ L, free q.base)
def x_MQT (below : List Frame) (Qc : Array Value → State → Outcome → State → Prop) (a : Array Value) (s : State) (mc ms : Nat) (free : Addr → Prop) : State → Prop := fun t =>
  ∃ o, t.status = .running ∧ Ended t below o ∧ Qc a s o t ∧ ∃ L, FramedT s o t L mc ms ∧ ∀ q ∈ L, free q.base
/-- the end of a call that throws an object of the class C: where it lies, what holds of the heap -/
def x_QT (C : String) (P : Heap → Prop) : Array Value → State → Outcome → State → Prop := fun _ st oc t => ∃ (x : Addr) (cell : Cell), oc = .threw x ∧ t.heap[x]? = some cell ∧ cell.vm = .none ∧ st.vm.findClass C = some cell.cls ∧ P t.heap
theorem x_ofWT {l : Launch} {y : MethodName} {ws ws' : List Cond} {rm : Room} {Pc : Array Value → State → Prop} {Qc : Array Value → State → Outcome → State → Prop} {mc ms : Nat} {free : Addr → Prop} {cc : ByteArray} {maxL : Nat} {ret : Option FieldType}
    (hy : plainName y.cls = true) (hw : ws = Cond.code y cc maxL ret :: ws')
    (body : ∀ p e s m args below meth c s₁, BodyLoose p l y (headSpec ws rm) cc maxL ret e s m args below meth c s₁ → c.maxLocals = maxL → Pc args s →
      W p l e (headSpec ws rm).room s m args below meth c s.heap [] 0 0 (x_MQT below Qc args s mc ms free) (entryFrame m args maxL)) : x_MetT l y ws rm Pc Qc mc ms free := by
  refine MetFree.of_bodyS (code := cc) (maxLocals := maxL) (ret := ret) hy (fun args s m h hn => ?_) (fun p e s m args below meth c s₁ B hml hP _ => ?_)
  · obtain ⟨meth, c, h1, h2, h3, h4, h5, h6, -, -⟩ := Cond.code_spec hn (atoms_spec (ws := ws) h _ (by rw [hw]; exact List.mem_cons_self))
    exact ⟨meth, c, h1, h2, h3, h4, h5, h6⟩
  · obtain ⟨t, a1, o, b1, b2, b3⟩ := body p e s m args below meth c s₁ B hml hP s₁ (by rw [B.state]; rfl) (Stand.of_body B)
    exact ⟨t, o, a1, b1, b2, b3⟩
/-- nothing was written that was there: all old cells are as they were -/
theorem x_kept {s t : State} {cells slots : Nat} (h : s.sameButNew ({ t with vm := s.vm } : State) [] cells slots) : s.heap.size ≤ t.heap.size ∧ ∀ q : Nat, q < s.heap.size → t.heap[q]? = s.heap[q]? := by
  obtain ⟨-, h1, -, -, -, h2⟩ := h
  refine ⟨h1, fun q hq => ?_⟩
  obtain ⟨c', e1, e2, e3, e4⟩ := h2 q s.heap[q] (Array.getElem?_eq_getElem hq)
  have e5 : c'.slots = s.heap[q].slots := Array.ext_getElem? fun i => e4 i (by simp)
  rw [e5] at e2
  have e6 : t.heap[q]? = some c' := e1
  rw [e6, Array.getElem?_eq_getElem hq, e2]
section XT
variable {p : Program} {l : Launch} {e : Env} {R : Room} {s : State} {m : MethodId} {args : Array Value} {below : List Frame} {meth : Method} {c : Code} {H : Heap} {locs : List Loc} {cells slots : Nat} {Q : State → Prop}
variable {cc : ByteArray} {pc : Nat} {ls : Array Slot} {rest : List Value}
/-- 'throw new X(text)', from the constructor's call on: nothing that was there has been written -/
theorem x_throw {Qc : Array Value → State → Outcome → State → Prop} {free : Addr → Prop} (hexec : p.tables.exec = Jvm.exec) (hb : c.code = cc) (htr : e.platform.stackTraces = false) (hml : c.maxLocals = ls.size) {own cls : String} {names : List String} {ic : Nat}
    (hown : s.vm.findClass own = some m.cls) (hcls : Bundle.fit cls = true) (hnames : ∀ n ∈ names, Bundle.fit n = true) (h : ∀ a ∈ Bundle.ownAtoms own ic cls names, a.before args s = true)
    {a : Addr} {cX : ClassId} {kX : Class} (hfoundX : s.vm.findClass cls = some cX) (hkX : s.vm.classes[cX]? = some kX) (hcell : H[a]? = some (freshCell cX kX)) (hnew : s.heap.size ≤ a) {msg : Value} (hmsg : msg.isRef = true)
    (hd6 : decode cc pc = .ok (.invokespecial ic, 3)) (hd9 : decode cc (pc + 3) = .ok (.athrow, 1)) (hout : c.exceptionTable.toList = [])
    (hRframes : names.length + 3 < R.frames) (hRlocals : (rest.map fun v => v.category).sum + (13 * (names.length + 1) + 43) ≤ R.locals)
    (hq : ∀ (t : State) (cell : Cell), t.heap[a]? = some cell → cell.vm = .none → s.vm.findClass cls = some cell.cls → s.heap.size ≤ t.heap.size → (∀ q : Nat, q < s.heap.size → t.heap[q]? = s.heap[q]?) → Qc args s (.threw a) t) (hlocks : meth.locks = false) :
    W p l e R s m args below meth c H [] cells slots (x_MQT below Qc args s cells slots free) (F0 m pc ls (msg :: .ref a :: .ref a :: rest)) := by
  intro T hT X
  subst hb
  obtain ⟨U, hst, hrun, hend, hW, hsame, ce, hce, hoc⟩ := X.ctorThrowS hexec htr (own := own) (cls := cls) (names := names) (ic := ic) hown hcls hnames h (fun x hx => by cases hx) hfoundX hkX (by rw [hT]; exact hcell) hnew hmsg (g := F0 m pc ls (msg :: .ref a :: .ref a :: rest)) rfl hml.symm rfl rfl (rest := rest) rfl hd6 hd9 (fun x hx => by rw [hout] at hx; cases hx) hRframes
    (by
      have e0 : (Value.ref a).category = 1 := rfl
      rw [List.map_cons, List.sum_cons, e0]
      show 2 * 0 + _ + _ ≤ _
      omega)
  obtain ⟨k1, k2⟩ := x_kept hsame
  exact ⟨U, hst, .threw a, hrun, hend, hq U ce hce hoc.vm hoc.cls k1 k2, [], ⟨⟨a, rfl⟩, hW, hsame⟩, fun q hq => by cases hq⟩
/-- 'throw new X(text)' -/
theorem x_thr {Qc : Array Value → State → Outcome → State → Prop} {free : Addr → Prop} (hexec : p.tables.exec = Jvm.exec) (hb : c.code = cc) (hl : l.stackTraces = false) (hml : c.maxLocals = ls.size) {own cls tx : String} {names : List String} {ik is ic : Nat}
    (hown : s.vm.findClass own = some m.cls) (hcls : Bundle.fit cls = true) (hnames : ∀ n ∈ names, Bundle.fit n = true) (h : ∀ a ∈ Bundle.ownAtoms own ic cls names, a.before args s = true) (hk : (Cond.classLink own ik cls).before args s = true) (hini : (Cond.initialized cls).before args s = true) (hins : (Cond.instantiable cls 6).before args s = true) (hstr : ∃ a, vk_R own is tx a s)
    (d0 : decode cc pc = .ok (.new ik, 3)) (d3 : decode cc (pc + 3) = .ok (.dup, 1)) (d4 : decode cc (pc + 3 + 1) = .ok (.ldc is, 2)) (d6 : decode cc (pc + 3 + 1 + 2) = .ok (.invokespecial ic, 3)) (d9 : decode cc (pc + 3 + 1 + 2 + 3) = .ok (.athrow, 1)) (hout : c.exceptionTable.toList = [])
    (hRframes : names.length + 3 < R.frames) (hRlocals : (rest.map fun v => v.category).sum + (13 * (names.length + 1) + 43) ≤ R.locals) (hcells : cells + 1 ≤ R.cells) (hslots : slots + 6 ≤ R.slots) (hge : s.heap.size ≤ H.size)
    (hq : ∀ (t : State) (cell : Cell), t.heap[H.size]? = some cell → cell.vm = .none → s.vm.findClass cls = some cell.cls → s.heap.size ≤ t.heap.size → (∀ q : Nat, q < s.heap.size → t.heap[q]? = s.heap[q]?) → Qc args s (.threw H.size) t) (hlocks : meth.locks = false) :
    W p l e R s m args below meth c H [] cells slots (x_MQT below Qc args s (cells + 1) (slots + 6) free) (F0 m pc ls rest) := by
  obtain ⟨sa, hsa⟩ := hstr
  refine W.newc hexec hb hown hk hins hini rfl d0 hcells hslots fun cC kC f1 f2 f3 f4 => ?_
  refine W.eq (g2 := F0 m (pc + 3) ls (.ref H.size :: rest)) rfl ?_
  refine lv_dup hexec hb d3 rfl ?_
  refine va_ldcS hexec hb hown hsa d4 ?_
  intro T hT X
  have htr : e.platform.stackTraces = false := (show e.platform.stackTraces = l.stackTraces by rw [X.admits.platform]).trans hl
  exact x_throw hexec hb htr hml hown hcls hnames h f1 f2 (by simp [freshCell]) hge rfl d6 d9 hout hRframes hRlocals hq hlocks T hT X
/-- a call that throws -/
def x_RunT (p : Program) (l : Launch) (e : Env) (R : Room) (s : State) (m : MethodId) (args : Array Value) (below : List Frame) (meth : Method) (c : Code) (H : Heap) (locs : List Loc) (cells slots mc ms : Nat) (g : JFrame) (rest : List Value) (Qa : State → Outcome → State → Prop) (free : Addr → Prop) : Prop :=
  ∀ T : State, T.heap = H → Stand p l e R s m args below meth c T locs cells slots → ∃ (x : Addr) (st₀ t T' : State) (L : List Loc), st₀.heap = H ∧ s.vm.Alike st₀.vm ∧ Stand p l e R s m args below meth c T' (locs ++ L) (cells + mc) (slots + ms) ∧ (∀ q ∈ L, free q.base) ∧ T'.heap = t.heap ∧ Qa st₀ (.threw x) t ∧
    Steps p.tables e below (T.setTop g) ((T'.setTop { g with stack := rest }).pushFrame (.throwing x))
/-- the callee's own run, from the invocation to the note over the caller's frame -/
theorem x_invT {y : MethodName} {ws : List Cond} {rm : Room} {Pc : Array Value → State → Prop} {Qc : Array Value → State → Outcome → State → Prop} {mc ms : Nat} {free : Addr → Prop} {bytes : ByteArray} {maxL : Nat} {ret : Option FieldType}
    (hM : x_MetT l y ws rm Pc Qc mc ms free) (hbl : FrameBlind Pc) (hrc : rm.cells = mc) (hrs : rm.slots = ms) (hfr : rm.frames + 1 ≤ R.frames) (hlo : 8 + (maxL + 11) + rm.locals ≤ R.locals)
    {U : State} (X : Stand p l e R s m args below meth c U locs cells slots) (hws : ∀ (a' : Array Value), ∀ w ∈ ws, w.before a' U = true) (hcode : ∀ (a' : Array Value), (Cond.code y bytes maxL ret).before a' U = true) (hini : ∀ (a' : Array Value), (Cond.initialized y.cls).before a' U = true)
    {g : JFrame} (hg : g.method = m) (hsize : g.locals.size = c.maxLocals) {ig : Instr} {len : Nat} (hdg : decode c.code g.pc = .ok (ig, len)) (hW : 2 * g.monitorRoom + (g.stack.map fun v => v.category).sum ≤ 8)
    {mk : MethodId} (hn : U.methodNamed? y = some mk) (hf : cells + mc ≤ R.cells ∧ slots + ms ≤ R.slots) {a : Array Value} (hP : Pc a U) :
    ∃ (x : Addr) (t T' : State) (L : List Loc), Stand p l e R s m args below meth c T' (locs ++ L) (cells + mc) (slots + ms) ∧ (∀ q ∈ L, free q.base) ∧ T'.heap = t.heap ∧ Qc a (U.calling g mk a) (.threw x) t ∧
      Steps p.tables e below (doInvoke e (U.setTop g) [] mk a).1 ((T'.setTop g).pushFrame (.throwing x)) := by
  subst hg
  obtain ⟨methY, cY, hmY, hcY, -, hlY, -, -, -, -⟩ := Cond.code_spec hn (hcode a)
  obtain ⟨kY, hkY, -⟩ := className_of_methodNamed hn
  have hinitY : kY.init = .initialized := Cond.initialized_spec (findClass_of_methodNamed hn) hkY (hini a)
  have hat : At U g.method c below := X.here
  have hroom := X.room_calling (g := g) (R' := rm) (args' := a) hsize hmY hcY hfr (by rw [hlY]; omega) (by rw [hrc]; exact hf.1) (by rw [hrs]; exact hf.2)
  have happ : (headSpec ws rm).appliesLoose y e.platform (U.calling g mk a) = true := Spec.appliesLoose_calling (g := g) hat hdg hn hkY hinitY hroom (atoms_intro (hws a))
  obtain ⟨mid, hmid⟩ := hat.above
  obtain ⟨o, u, hst, -, hend, hq, L, ⟨⟨x, rfl⟩, hWu, e2, q2, q3, q4, q5, q6⟩, hL⟩ := Steps.callFree hM p X.admits X.cas X.clock (acts := []) (s := U.setTop g) (m := mk) (args := a) (mid := .java g :: mid) (below := below) (by rw [State.frames_setTop' g hat.top, hmid]; rfl) happ (hbl a U g mk hP) trivial
  have hWu : U.WarmedH u.vm := hWu
  obtain ⟨g0, hg0⟩ := Option.isSome_iff_exists.mp hat.top
  obtain ⟨r, hr⟩ := State.topJava?_eq_some.mp hg0
  obtain ⟨th, hth, -⟩ := State.frames_cons hr
  have hfu : u.frames = .throwing x :: .java g :: U.frames.tail := by
    have h0 := hend
    rw [State.frames_setTop' g hat.top] at h0
    exact h0
  generalize hT' : (({ U with heap := u.heap, slotsUsed := u.slotsUsed } : State).setVm u.vm) = T'
  have hrT : T'.frames = .java g0 :: r := by rw [← hT']; exact hr
  have hu : u = (T'.setTop g).pushFrame (.throwing x) := by
    have h1 : u = ({ u with vm := ((U.setTop g).pushFrame (.invoking mk a)).vm } : State).setVm u.vm := rfl
    rw [e2] at h1
    have hR : (T'.setTop g).pushFrame (.throwing x) = T'.setFrames (.throwing x :: .java g :: r) := by
      rw [State.pushFrame, State.frames_setTop _ hrT, State.setTop_of_frames _ hrT, State.setFrames_setFrames]
    refine h1.trans ?_
    rw [hR, ← hT']
    show ({ (U.calling g mk a).setFrames u.frames with heap := u.heap, slotsUsed := u.slotsUsed } : State).setVm u.vm = _
    rw [hfu, State.calling_eq hat.top, State.setFrames_setFrames, hr]
    rfl
  have hsame : U.sameButNew ({ U with heap := u.heap, slotsUsed := u.slotsUsed } : State) L mc ms := by
    refine ⟨?_, q2, q3, q4, q5, q6⟩
    show ({ U with heap := u.heap, slotsUsed := u.slotsUsed } : State) = { U.setFrames U.frames with heap := u.heap, slotsUsed := u.slotsUsed }
    rw [State.setFrames_self hth]
  have XT : Stand p l e R s g.method args below meth c T' (locs ++ L) (cells + mc) (slots + ms) := by
    rw [← hT']
    exact ⟨X.admits, X.cas, X.clock, X.frames, X.room, X.hears, X.method, X.code, (X.here.setHeapUsed u.heap u.slotsUsed).setVm hWu.alike, X.tail, State.WarmedH.trans X.warmed hWu, X.limits, X.bytes, X.same.trans (hsame.setVm s.vm)⟩
  refine ⟨x, u, T', L, XT, hL, by rw [← hT']; rfl, hq, ?_⟩
  rw [← hu]
  exact hst
theorem x_runST {y : MethodName} {bytes : ByteArray} {maxL nL mc ms n index : Nat} {ret : Option FieldType} {ws : List Cond} {rm : Room} {Pc : Array Value → State → Prop} {Qc : Array Value → State → Outcome → State → Prop} {free : Addr → Prop} {Ts : List Cond} {own : String} {As : List Value} {g : JFrame}
    (S : CallFix p m c cc nL s args Ts own) (hM : x_MetT l y ws rm Pc Qc mc ms free) (cw : CallB R s args own index y bytes maxL ret ws rm mc ms n ∧ (Cond.static y).before args s = true) (hp : PreS s H Pc As)
    (hg : g.method = m) (hn : As.length = n) (hsize : g.locals.size = nL) (hstack : g.stack = As.reverse ++ rest) (hW : 2 * g.monitorRoom + (rest.map fun v => v.category).sum ≤ 8) (hdg : decode cc g.pc = .ok (.invokestatic index, 3)) (hf : cells + mc ≤ R.cells ∧ slots + ms ≤ R.slots) :
    x_RunT p l e R s m args below meth c H locs cells slots mc ms g rest (Qc As.toArray) free := by
  obtain ⟨⟨hrc, hrs, hfr, hlo, hws, hcw, hcode, hini, hy, hlen, hl⟩, hstt⟩ := cw
  obtain ⟨hx, hb, hml, ho, -⟩ := S
  intro T hT X
  subst hb
  obtain ⟨mk, hnamed⟩ := Cond.code_named hcode
  obtain ⟨methM, cM, hmethM, -, -, -, -, -, -, hsigM⟩ := Cond.code_spec hnamed hcode
  obtain ⟨kP, hkP, -⟩ := className_of_methodNamed hnamed
  obtain ⟨vm₁, X₁, hst₁⟩ := X.invokestatic hx ho hl hnamed hmethM (Cond.static_spec hnamed hmethM hstt) hkP (Cond.initialized_spec (findClass_of_methodNamed hnamed) hkP hini) hy (g := g) hg (argsL := As) (rest := rest) (hn.trans (hlen _ hsigM)) hstack hdg
  obtain ⟨x, t, T', L, XT, hL, e1, hq, hst⟩ := x_invT (bytes := bytes) (maxL := maxL) (ret := ret) hM hp.1 hrc hrs hfr hlo X₁ (fun a' w hw => hws w hw a' _ X₁.warmed) (fun a' => hws _ hcw a' _ X₁.warmed) (fun a' => word_at X₁.warmed (Or.inl (by first | rfl | simp [Cond.onTables, Cond.keeps, Cond.steady])) hini) (g := { g with stack := rest }) hg (hsize.trans hml.symm) hdg hW (X₁.named hnamed) hf (hp.2 (T.setVm vm₁) hT X₁.warmed)
  exact ⟨x, (T.setVm vm₁).calling { g with stack := rest } mk As.toArray, t, T', L, hT, X₁.warmed.alike, XT, hL, e1, hq, hst₁ _ fun acts => by rw [doInvoke_state]; exact hst⟩
theorem x_runVT {y : MethodName} {bytes : ByteArray} {maxL nL mc ms n index : Nat} {ret : Option FieldType} {ws : List Cond} {rm : Room} {Pc : Array Value → State → Prop} {Qc : Array Value → State → Outcome → State → Prop} {free : Addr → Prop} {Ts : List Cond} {own C : String} {b : Addr} {As : List Value} {g : JFrame}
    (S : CallFix p m c cc nL s args Ts own) (hM : x_MetT l y ws rm Pc Qc mc ms free) (cw : CallW R s args own C index y bytes maxL ret ws rm mc ms n) (hp : PreV s H C b Pc As)
    (hg : g.method = m) (hn : As.length = n) (hsize : g.locals.size = nL) (hstack : g.stack = As.reverse ++ .ref b :: rest) (hW : 2 * g.monitorRoom + (rest.map fun v => v.category).sum ≤ 8) (hdg : decode cc g.pc = .ok (.invokevirtual index, 3)) (hf : cells + mc ≤ R.cells ∧ slots + ms ≤ R.slots) :
    x_RunT p l e R s m args below meth c H locs cells slots mc ms g rest (Qc (Value.ref b :: As).toArray) free := by
  obtain ⟨⟨hrc, hrs, hfr, hlo, hws, hcw, hcode, hini, hy, hlen, hl⟩, hin, hse⟩ := cw
  obtain ⟨hx, hb, hml, ho, -⟩ := S
  obtain ⟨hbl, ⟨cellB, hcB, hoB, hclB⟩, hPc⟩ := hp
  intro T hT X
  subst hb
  obtain ⟨mk, methM, hnamed, hmethM, hstM, habM⟩ := Cond.instanceMethod_spec hin
  obtain ⟨methM', cM, hmethM', -, -, -, -, -, -, hsigM⟩ := Cond.code_spec hnamed hcode
  cases hmethM.symm.trans hmethM'
  obtain ⟨c2, r2, m2, q1, q2, q3, q4, kP, hkP, hkPi⟩ := Cond.selects_spec hse
  cases hclB.symm.trans q1
  cases (State.methodFound?_of_named hnamed hy).symm.trans q2
  cases hnamed.symm.trans q3
  have hsel : selectMethod e.platform s.vm cellB.cls mk = .method mk := by rw [Launch.admits_selectMethod X.admits]; exact q4
  obtain ⟨vm₁, X₁, hst₁⟩ := X.invokevirtual hx ho hl hnamed hmethM hstM hkP hkPi hy (a := b) (cell := cellB) (by rw [hT]; exact hcB) (fun z h => by rw [h] at hoB; cases hoB) hsel hmethM habM hkP hkPi (g := g) hg (argsL := As) (rest := rest) (hn.trans (hlen _ hsigM)) hstack hdg
  obtain ⟨x, t, T', L, XT, hL, e1, hq, hst⟩ := x_invT (bytes := bytes) (maxL := maxL) (ret := ret) hM hbl hrc hrs hfr hlo X₁ (fun a' w hw => hws w hw a' _ X₁.warmed) (fun a' => hws _ hcw a' _ X₁.warmed) (fun a' => word_at X₁.warmed (Or.inl (by first | rfl | simp [Cond.onTables, Cond.keeps, Cond.steady])) hini) (g := { g with stack := rest }) hg (hsize.trans hml.symm) hdg hW (X₁.named hnamed) hf (hPc (T.setVm vm₁) hT X₁.warmed)
  exact ⟨x, (T.setVm vm₁).calling { g with stack := rest } mk (Value.ref b :: As).toArray, t, T', L, hT, X₁.warmed.alike, XT, hL, e1, hq, hst₁ _ fun acts => by rw [doInvoke_state]; exact hst⟩
/-- out of a method that has no table -/
theorem x_leaveT {st0 : List Value} {av : Array Value} {mc ms : Nat} {free F : Addr → Prop} {C : String} {P P' : Heap → Prop} (hr : x_RunT p l e R s m args below meth c H locs cells slots mc ms (F0 m pc ls st0) rest (x_QT C P av) free) (hL : ∀ q ∈ locs, F q.base) (hf : ∀ q, free q → F q) (hout : c.exceptionTable.toList = []) (hlocks : meth.locks = false)
    (hq : ∀ H1 : Heap, P H1 → P' H1) : W p l e R s m args below meth c H locs cells slots (x_MQT below (x_QT C P') args s (cells + mc) (slots + ms) F) (F0 m pc ls st0) := by
  intro T hT X
  obtain ⟨x, st₀, t, T', L, h0, hal, X', hLL, e1, ⟨x', cell, ex, hc, hv, hfc, hP⟩, hst⟩ := hr T hT X
  cases ex
  obtain ⟨hw, hrun, hend, hWm, hsame⟩ := X'.leaveThrown x (g := F0 m pc ls rest) rfl rfl rfl (fun y hy => by rw [hout] at hy; cases hy) (hlocks := hlocks)
  have eh : (T'.setFrames (.throwing x :: below)).heap = t.heap := e1
  refine ⟨_, hst.trans hw, .threw x, hrun, hend, ⟨x, cell, rfl, by rw [eh]; exact hc, hv, by rw [← hal.findClass]; exact hfc, by rw [eh]; exact hq _ hP⟩, locs ++ L, ⟨⟨x, rfl⟩, hWm, hsame⟩, fun q hq => ?_⟩
  rcases List.mem_append.mp hq with h | h
  · exact hL q h
  · exact hf _ (hLL q h)
end XT
/-! the search for a handler -/
section XH
variable {e : Env} {f : JFrame} {a : Addr}
theorem x_row {S : State} {x : ExceptionTableEntry} {t : List ExceptionTableEntry} {k : ClassId} {cell : Cell} {Q : Handler → Pre} {E : CtlPost} {d : Bool} {acts : List Action} (hx : covers x f.pc = true) (h0 : x.catchType ≠ 0) (hl : S.vm.ClassLinks e.platform f.method.cls x.catchType k) (hcell : S.heap[a]? = some cell) (hobj : ∀ z, cell.vm ≠ .statics z) (hk : ∃ z, S.vm.classes[cell.cls]? = some z) (hc : ∃ z, S.vm.classes[k]? = some z) :
    wp (findHandler.go f a (x :: t)) Q E e d acts S ↔ (if S.vm.assignable cell.cls k = true then Q (.found x.handlerPc) d acts (S.setVm (S.vm.noted f.method.cls x.catchType (.cls k))) else wp (findHandler.go f a t) Q E e d acts (S.setVm (S.vm.noted f.method.cls x.catchType (.cls k)))) := by
  have hx' : (decide (x.startPc ≤ f.pc) && decide (f.pc < x.endPc)) = true := hx
  obtain ⟨r1, r2⟩ := (resolveClass_links e.toSetting hl).op (op := VmOp.resolveClass f.method.cls x.catchType) rfl
  have hal : S.vm.Alike (S.vm.noted f.method.cls x.catchType (.cls k)) := (Vm.Alike.refl S.vm).noted _ _ _
  obtain ⟨z1, hz1⟩ := hk
  obtain ⟨z2, hz2⟩ := hc
  obtain ⟨w1, hw1, -⟩ := hal.2.2 _ _ hz1
  obtain ⟨w2, hw2, -⟩ := hal.2.2 _ _ hz2
  have hasg := hal.assignable cell.cls k
  cases hb : S.vm.assignable cell.cls k with
  | true =>
    rw [hb] at hasg
    simp [findHandler.go, hx', h0, r1, r2, hcell, hobj, hw1, hw2, hasg, VmOp.dirties, VmOp.acts]
  | false =>
    rw [hb] at hasg
    simp [findHandler.go, hx', h0, r1, r2, hcell, hobj, hw1, hw2, hasg, VmOp.dirties, VmOp.acts]
/-- the rows ahead name classes that the object is none of; this row's class takes it -/
theorem x_search {s₀ : State} {cell : Cell} {x : ExceptionTableEntry} {rest : List ExceptionTableEntry} {k : ClassId} (hobj : ∀ z, cell.vm ≠ .statics z) (hk0 : ∃ z, s₀.vm.classes[cell.cls]? = some z) (hx : covers x f.pc = true) (h0 : x.catchType ≠ 0) (hl : s₀.vm.ClassLinks e.platform f.method.cls x.catchType k) (hfit : s₀.vm.assignable cell.cls k = true) :
    ∀ (pre : List ExceptionTableEntry) (S : State), s₀.WarmedH S.vm → S.heap[a]? = some cell → (∀ y ∈ pre, covers y f.pc = true ∧ y.catchType ≠ 0 ∧ ∃ z, s₀.vm.ClassLinks e.platform f.method.cls y.catchType z ∧ s₀.vm.assignable cell.cls z = false) →
      ∃ vm', s₀.WarmedH vm' ∧ ∀ (Q : Handler → Pre) (E : CtlPost) (d : Bool) (acts : List Action), wp (findHandler.go f a (pre ++ x :: rest)) Q E e d acts S ↔ Q (.found x.handlerPc) d acts (S.setVm vm') := by
  obtain ⟨z0, hz0⟩ := hk0
  intro pre
  induction pre with
  | nil =>
    intro S hW hcell _
    obtain ⟨z1, hz1, -⟩ := hW.alike.2.2 _ _ hz0
    obtain ⟨dk, _, _, kt, hd, _, _, _, _, hkt, _, hopen⟩ := hl.here
    obtain ⟨z2, hz2, -⟩ := hW.alike.2.2 _ _ hkt
    refine ⟨_, hW.noted hd hopen (State.rightAt_cls hl), fun Q E d acts => ?_⟩
    rw [List.nil_append, x_row hx h0 (hW.classLinks hl) hcell hobj ⟨z1, hz1⟩ ⟨z2, hz2⟩, if_pos (by rw [hW.alike.assignable]; exact hfit)]
  | cons y ys ih =>
    intro S hW hcell hpass
    obtain ⟨z1, hz1, -⟩ := hW.alike.2.2 _ _ hz0
    obtain ⟨hcov, hy0, z, hzl, hno⟩ := hpass y List.mem_cons_self
    obtain ⟨dk, _, _, kt, hd, _, _, _, _, hkt, _, hopen⟩ := hzl.here
    obtain ⟨z2, hz2, -⟩ := hW.alike.2.2 _ _ hkt
    obtain ⟨vm', hW', hq⟩ := ih (S.setVm (S.vm.noted f.method.cls y.catchType (.cls z))) (hW.noted hd hopen (State.rightAt_cls hzl)) hcell (fun w hw => hpass w (List.mem_cons_of_mem _ hw))
    refine ⟨vm', hW', fun Q E d acts => ?_⟩
    rw [List.cons_append, x_row hcov hy0 (hW.classLinks hzl) hcell hobj ⟨z1, hz1⟩ ⟨z2, hz2⟩, if_neg (by rw [hW.alike.assignable, hno]; decide)]
    exact hq Q E d acts
theorem x_into {tb : Tables} {s target : State} {g : JFrame} {c : Code} {below : List Frame} {pc : Nat} {vm' : Vm} (h : At s g.method c below)
    (hfind : ∀ (Q : Handler → Pre) (E : CtlPost) (d : Bool) (acts : List Action), wp (findHandler g a) Q E e d acts ((s.setTop g).pushFrame (.throwing a)) ↔ Q (.found pc) d acts (((s.setTop g).pushFrame (.throwing a)).setVm vm'))
    (hrest : Steps tb e below ((s.setVm vm').setTop { g with pc := pc, stack := [.ref a] }) target) : Steps tb e below ((s.setTop g).pushFrame (.throwing a)) target := by
  obtain ⟨hgo, hw⟩ := h.throwing a
  obtain ⟨g0, hg0⟩ := Option.isSome_iff_exists.mp h.top
  obtain ⟨r, hr⟩ := State.topJava?_eq_some.mp hg0
  refine Steps.head hgo hw ?_
  have hstep : (stepThrowing e ((s.setTop g).pushFrame (.throwing a)) a (.java g :: s.frames.tail)).1 = (((s.setTop g).pushFrame (.throwing a)).setVm vm').setFrames (.java { g with pc := pc, stack := [.ref a] } :: s.frames.tail) := by
    simp only [stepThrowing, searchFrame, vmDo]
    generalize hres : Sem.go _ e false [] ((s.setTop g).pushFrame (.throwing a)) = res
    obtain ⟨as, rfl, -⟩ := Sem.eq_ok_of hres (a := Handler.found pc) (s' := ((s.setTop g).pushFrame (.throwing a)).setVm vm') (acts' := []) (by simp [hfind _ _ _ _])
    rfl
  rw [stepThread_throwing (frames_entered h.top _), hstep]
  have e1 : (((s.setTop g).pushFrame (.throwing a)).setVm vm').setFrames (.java { g with pc := pc, stack := [.ref a] } :: s.frames.tail) = (s.setVm vm').setTop { g with pc := pc, stack := [.ref a] } := by
    have hr' : (s.setVm vm').frames = .java g0 :: r := hr
    rw [State.setTop_of_frames _ hr', State.pushFrame, State.setTop_of_frames _ hr, hr]
    have e2 : ∀ (u : State) (A B : List Frame), ((u.setFrames A).setVm vm').setFrames B = (u.setVm vm').setFrames B := fun u A B => by
      have e3 : (u.setFrames A).setVm vm' = (u.setVm vm').setFrames A := rfl
      rw [e3, State.setFrames_setFrames]
    rw [State.setFrames_setFrames, e2]
    rfl
  rw [e1]
  exact hrest
end XH
section XC
variable {p : Program} {l : Launch} {e : Env} {R : Room} {s : State} {m : MethodId} {args : Array Value} {below : List Frame} {meth : Method} {c : Code} {H : Heap} {locs : List Loc} {cells slots : Nat} {Q : State → Prop}
variable {cc : ByteArray} {pc : Nat} {ls : Array Slot} {rest : List Value}
/-- a call's exception, of the class C, caught by the row x behind the rows 'pre' -/
theorem x_catch {st0 : List Value} {av : Array Value} {mc ms : Nat} {free F : Addr → Prop} {C own name : String} {P : Heap → Prop} (hr : x_RunT p l e R s m args below meth c H locs cells slots mc ms (F0 m pc ls st0) rest (x_QT C P av) free) (hL : ∀ q ∈ locs, F q.base) (hf : ∀ q, free q → F q)
    (hown : s.vm.findClass own = some m.cls) {pre rest' : List ExceptionTableEntry} {x : ExceptionTableEntry} (htab : c.exceptionTable.toList = pre ++ x :: rest') (hx : covers x pc = true) (h0 : x.catchType ≠ 0) (hlink : (Cond.classLink own x.catchType name).before args s = true) (hcast : (Cond.castable C name).before args s = true)
    (hpre : ∀ y ∈ pre, covers y pc = true ∧ y.catchType ≠ 0 ∧ ∃ nm : String, (Cond.classLink own y.catchType nm).before args s = true ∧ va_Nc C nm s)
    (kk : ∀ (q : Nat) (H1 : Heap) (locs1 : List Loc), P H1 → (∀ q ∈ locs1, F q.base) → W p l e R s m args below meth c H1 locs1 (cells + mc) (slots + ms) Q (F0 m x.handlerPc ls [.ref q])) : W p l e R s m args below meth c H locs cells slots Q (F0 m pc ls st0) := by
  intro T hT X
  obtain ⟨q, st₀, t, T', L, h00, hal, X', hLL, e1, ⟨q', cell, ex, hc, hv, hfc, hP⟩, hst⟩ := hr T hT X
  cases ex
  have hpl : e.platform.magicAccessors = ({} : Platform).magicAccessors := by rw [X.admits.platform]
  have hfc' : s.vm.findClass C = some cell.cls := by rw [← hal.findClass]; exact hfc
  obtain ⟨k, hk, hkl⟩ := Cond.classLink_spec hown hlink e.platform hpl
  obtain ⟨c3, t3, w1, w2, w3⟩ := Cond.castable_spec hcast
  cases hfc'.symm.trans w1
  cases hk.symm.trans w2
  obtain ⟨vm', hW', hgo⟩ := x_search (e := e) (f := F0 m pc ls rest) (a := q) (s₀ := s) (cell := cell) (x := x) (rest := rest') (k := k) (fun z hz => by rw [hv] at hz; cases hz) (Vm.classAt_of_findClass hfc') hx h0 hkl w3 pre ((T'.setTop (F0 m pc ls rest)).pushFrame (.throwing q)) X'.warmed (by rw [Stand.throwing_heap, e1]; exact hc) (fun y hy => by
    obtain ⟨y1, y2, nm, y3, c5, t5, y4, y5, y6⟩ := hpre y hy
    obtain ⟨z, hz, hzl⟩ := Cond.classLink_spec hown y3 e.platform hpl
    cases hfc'.symm.trans y4
    cases hz.symm.trans y5
    exact ⟨y1, y2, _, hzl, y6⟩)
  have hfind : ∀ (Q : Handler → Pre) (E : CtlPost) (d : Bool) (acts : List Action), wp (findHandler (F0 m pc ls rest) q) Q E e d acts ((T'.setTop (F0 m pc ls rest)).pushFrame (.throwing q)) ↔ Q (.found x.handlerPc) d acts (((T'.setTop (F0 m pc ls rest)).pushFrame (.throwing q)).setVm vm') := fun Q E d acts => by
    rw [W.findHandler_eq (meth := meth) (code := c) (by rw [Stand.throwing_vm]; exact X'.method') X'.code, htab]
    exact hgo Q E d acts
  obtain ⟨t2, a1, b1⟩ := kk q (T'.setVm vm').heap (locs ++ L) (by show P T'.heap; rw [e1]; exact hP) (fun z hz => by
      rcases List.mem_append.mp hz with h | h
      · exact hL z h
      · exact hf _ (hLL z h)) (T'.setVm vm') rfl (X'.noted hW')
  exact ⟨t2, hst.trans (x_into (g := F0 m pc ls rest) X'.here hfind a1), b1⟩
end XC
end
section
/-! THE DISK: what refuses -/
theorem x_nohand {l : Launch} {y : MethodName} {cc : ByteArray} {maxL : Nat} {ret : Option FieldType} {rm : Room} {p : Program} {e : Env} {s : State} {m : MethodId} {args : Array Value} {below : List Frame} {meth : Method} {c : Code} {s₁ : State} (B : BodyLoose p l y (headSpec (Cond.code y cc maxL ret :: x_tb) rm) cc maxL ret e s m args below meth c s₁) : c.exceptionTable.toList = [] := by
  have h := B.noHandlers (atoms_spec (ws := Cond.code y cc maxL ret :: x_tb) B.pre _ List.mem_cons_self)
  have h0 : c.exceptionTable.size = 0 := by simpa [Array.isEmpty] using h
  exact List.eq_nil_of_length_eq_zero (by simpa using h0)
def g_ok (x y : Int32) : Prop := g_sort x ∧ ¬ y < 0
set_option maxHeartbeats 4000000 in
set_option maxRecDepth 100000 in
theorem c_Bd_refuse (l : Launch) {D : va_G} {A : Nat → ClassId} {H0 : Heap} {x y : Int32} (h : g_ok x y) : Met l y_Bd_refuseWrongName w_Bd_refuseWrongName { frames := 1, cells := 0, slots := 0, locals := 20 } (x_Pc D A [.int x, .int y] H0) (x_Q none (fun H1 => H1 = H0)) 0 0 (fun _ => False) := by
  refine Met.ofW (cc := prog_1_method_15_code) (maxL := 2) (ret := none) (by decide) rfl ?_
  intro p e s m args below meth c s₁ B hml hv
  obtain ⟨rfl, hH, hK, hN⟩ := hv
  obtain ⟨hx, hb, hr, htb, hown, hlocks⟩ := x_start (wd := Cond.code y_Bd_refuseWrongName prog_1_method_15_code 2 none) B
  have hl := lv_entry ([.int x, .int y]) (n := 2) (Nat.le_of_ble_eq_true rfl)
  rw [lg_entry_eq]
  generalize (lg_sl ([.int x, .int y]) ++ List.replicate (2 - (lg_sl ([.int x, .int y])).length) Slot.unset).toArray = ls at hl ⊢
  have hl : lv_has ls 2 [(0, .int x), (1, .int y)] := hl
  rw [hH]
  refine lv_iload_n hx hb d_Bd_refuseWrongName_0 rfl (lv_at hl 0 rfl) ?_
  refine x_callP (va_runS (As := [.int x]) (rest := []) ⟨hx, hb, hml, hown, htb⟩ (c_Bd_isSort l h.1) (x_cS 1 htb mw_193 mw_1 mw_195 mw_194 rfl rfl (by decide +kernel) ⟨Nat.le_of_ble_eq_true rfl, Nat.le_of_ble_eq_true rfl⟩) (x_preS hK hN) rfl rfl hl.1 rfl (lv_room (Nat.le_of_ble_eq_true rfl)) d_Bd_refuseWrongName_1 ⟨Nat.le_of_ble_eq_true rfl, Nat.le_of_ble_eq_true rfl⟩) ?_
  refine W.eq (g2 := F0 m 4 ls [.int 1]) rfl ?_
  refine lv_if_eq (tgt := 11) hx hb d_Bd_refuseWrongName_4 (by decide) (fun c9 => absurd c9 (by decide)) (fun _ => ?_)
  refine lv_iload_n hx hb d_Bd_refuseWrongName_7 rfl (lv_at hl 1 rfl) ?_
  refine lv_if_ge (tgt := 21) hx hb d_Bd_refuseWrongName_8 (by decide) (fun _ => ?_) (fun c9 => absurd (Int32.not_lt.mp h.2) c9)
  exact x_vret hx hb hr hlocks rfl (fun q hq => by cases hq) (Nat.le_refl _) (Nat.le_refl _) d_Bd_refuseWrongName_21
set_option maxHeartbeats 4000000 in
set_option maxRecDepth 100000 in
theorem c_Bd_refuseT (l : Launch) (hlt0 : l.stackTraces = false) {D : va_G} {A : Nat → ClassId} {H0 : Heap} {M : Nat → Prop} {x y : Int32} (h : ¬ g_ok x y) : x_MetT l y_Bd_refuseWrongName w_Bd_refuseWrongName { frames := 6, cells := 1, slots := 6, locals := 90 } (x_PcT D A M [.int x, .int y] H0) (x_QT "java/lang/IndexOutOfBoundsException" (fun H1 => H0.size ≤ H1.size ∧ ∀ q : Nat, q < H0.size → H1[q]? = H0[q]?)) 1 6 (fun q => H0.size ≤ q) := by
  refine x_ofWT (cc := prog_1_method_15_code) (maxL := 2) (ret := none) (by decide) rfl ?_
  intro p e s m args below meth c s₁ B hml hv
  obtain ⟨rfl, hH, hK, hN, hT⟩ := hv
  obtain ⟨hx, hb, hr, htb, hown, hlocks⟩ := x_start (wd := Cond.code y_Bd_refuseWrongName prog_1_method_15_code 2 none) B
  have hout := x_nohand B
  have hTs : x_T M s s.heap := by rw [hH]; exact hT
  have hl := lv_entry ([.int x, .int y]) (n := 2) (Nat.le_of_ble_eq_true rfl)
  rw [lg_entry_eq]
  generalize (lg_sl ([.int x, .int y]) ++ List.replicate (2 - (lg_sl ([.int x, .int y])).length) Slot.unset).toArray = ls at hl ⊢
  have hl : lv_has ls 2 [(0, .int x), (1, .int y)] := hl
  rw [hH]
  have hL : ∀ q ∈ ([] : List Loc), (fun q : Nat => H0.size ≤ q) q.base := fun q hq => by cases hq
  refine lv_iload_n hx hb d_Bd_refuseWrongName_0 rfl (lv_at hl 0 rfl) ?_
  by_cases hs : g_sort x
  · refine x_callP (va_runS (As := [.int x]) (rest := []) ⟨hx, hb, hml, hown, htb⟩ (c_Bd_isSort l hs) (x_cS 1 htb mw_193 mw_1 mw_195 mw_194 rfl rfl (by decide +kernel) ⟨Nat.le_of_ble_eq_true rfl, Nat.le_of_ble_eq_true rfl⟩) (x_preS hK hN) rfl rfl hl.1 rfl (lv_room (Nat.le_of_ble_eq_true rfl)) d_Bd_refuseWrongName_1 ⟨Nat.le_of_ble_eq_true rfl, Nat.le_of_ble_eq_true rfl⟩) ?_
    refine W.eq (g2 := F0 m 4 ls [.int 1]) rfl ?_
    refine lv_if_eq (tgt := 11) hx hb d_Bd_refuseWrongName_4 (by decide) (fun c9 => absurd c9 (by decide)) (fun _ => ?_)
    refine lv_iload_n hx hb d_Bd_refuseWrongName_7 rfl (lv_at hl 1 rfl) ?_
    refine lv_if_ge (tgt := 21) hx hb d_Bd_refuseWrongName_8 (by decide) (fun c9 => absurd c9 (fun w => h ⟨hs, Int32.not_lt.mpr w⟩)) (fun _ => ?_)
    exact x_thr hx hb hlt0 (by rw [hml]; exact hl.1.symm) hown (by decide) (by decide) (fun a ha => x_own htb hN hTs a (ow_171 a ha)) (htb _ mw_322) (htb _ mw_14) (htb _ mw_323) (hN.2 (169, "no such SORT or TIME") (List.mem_of_getElem? (i := 1) rfl)) d_Bd_refuseWrongName_11 d_Bd_refuseWrongName_14 d_Bd_refuseWrongName_15 d_Bd_refuseWrongName_17 d_Bd_refuseWrongName_20 hout (Nat.le_of_ble_eq_true rfl) (Nat.le_of_ble_eq_true rfl) (Nat.le_of_ble_eq_true rfl) (Nat.le_of_ble_eq_true rfl) (Nat.le_of_eq (by rw [hH])) (fun t cell e1 e2 e3 e4 e5 => ⟨_, cell, rfl, e1, e2, e3, by rw [← hH]; exact ⟨e4, e5⟩⟩) hlocks
  · refine x_callP (va_runS (As := [.int x]) (rest := []) ⟨hx, hb, hml, hown, htb⟩ (c_Bd_isSortN l hs) (x_cS 1 htb mw_193 mw_1 mw_195 mw_194 rfl rfl (by decide +kernel) ⟨Nat.le_of_ble_eq_true rfl, Nat.le_of_ble_eq_true rfl⟩) (x_preS hK hN) rfl rfl hl.1 rfl (lv_room (Nat.le_of_ble_eq_true rfl)) d_Bd_refuseWrongName_1 ⟨Nat.le_of_ble_eq_true rfl, Nat.le_of_ble_eq_true rfl⟩) ?_
    refine W.eq (g2 := F0 m 4 ls [.int 0]) rfl ?_
    refine lv_if_eq (tgt := 11) hx hb d_Bd_refuseWrongName_4 (by decide) (fun _ => ?_) (fun c9 => absurd rfl c9)
    exact x_thr hx hb hlt0 (by rw [hml]; exact hl.1.symm) hown (by decide) (by decide) (fun a ha => x_own htb hN hTs a (ow_171 a ha)) (htb _ mw_322) (htb _ mw_14) (htb _ mw_323) (hN.2 (169, "no such SORT or TIME") (List.mem_of_getElem? (i := 1) rfl)) d_Bd_refuseWrongName_11 d_Bd_refuseWrongName_14 d_Bd_refuseWrongName_15 d_Bd_refuseWrongName_17 d_Bd_refuseWrongName_20 hout (Nat.le_of_ble_eq_true rfl) (Nat.le_of_ble_eq_true rfl) (Nat.le_of_ble_eq_true rfl) (Nat.le_of_ble_eq_true rfl) (Nat.le_of_eq (by rw [hH])) (fun t cell e1 e2 e3 e4 e5 => ⟨_, cell, rfl, e1, e2, e3, by rw [← hH]; exact ⟨e4, e5⟩⟩) hlocks
set_option maxHeartbeats 4000000 in
set_option maxRecDepth 100000 in
theorem c_Bd_refuseFull (l : Launch) {D : va_G} {A : Nat → ClassId} {H0 : Heap} {a z : Nat} {S : g_S} (hd : g_D D A a z S H0) (hlt : S.2.2.2.2.2.1.length < 200) : Met l y_Bd_refuseFullJournal w_Bd_refuseFullJournal { frames := 1, cells := 0, slots := 0, locals := 20 } (x_Pc D A [.ref a] H0) (x_Q none (fun H1 => H1 = H0)) 0 0 (fun _ => False) := by
  refine Met.ofW (cc := prog_1_method_16_code) (maxL := 1) (ret := none) (by decide) rfl ?_
  intro p e s m args below meth c s₁ B hml hv
  obtain ⟨rfl, hH, hK, hN⟩ := hv
  obtain ⟨hx, hb, hr, htb, hown, hlocks⟩ := x_start (wd := Cond.code y_Bd_refuseFullJournal prog_1_method_16_code 1 none) B
  have hl := lv_entry ([.ref a]) (n := 1) (Nat.le_of_ble_eq_true rfl)
  rw [lg_entry_eq]
  generalize (lg_sl ([.ref a]) ++ List.replicate (1 - (lg_sl ([.ref a])).length) Slot.unset).toArray = ls at hl ⊢
  have hl : lv_has ls 1 [(0, .ref a)] := hl
  rw [hH]
  obtain ⟨pa, as, bs, cs, ds, h1, h2, h3, ⟨h4, h4s⟩, ⟨h5, h5s⟩, ⟨h6, h6s⟩, ⟨h7, h7s⟩, h8, h9⟩ := id hd
  obtain ⟨g7, g71, -⟩ := id h7
  refine lv_aload_n hx hb d_Bd_refuseFullJournal_0 rfl (lv_at hl 0 rfl) ?_
  refine x_get (ci := 7) (T := T_Bd) hx hb htb u_Bd hown hK h1 rfl 4 (by decide) (htb _ mw_89) (fun _ h9 => h9) (v := .ref (z + 8)) rfl d_Bd_refuseFullJournal_1 ?_
  refine x_callP (va_runV (As := []) (rest := []) ⟨hx, hb, hml, hown, htb⟩ (c_Jo_isFull l h7) (x_cV 0 htb mw_362 mw_4 mw_365 mw_363 mw_364 rfl rfl (by decide +kernel) ⟨Nat.le_of_ble_eq_true rfl, Nat.le_of_ble_eq_true rfl⟩) (x_preV hK hN g71 rfl) rfl rfl hl.1 rfl (lv_room (Nat.le_of_ble_eq_true rfl)) d_Bd_refuseFullJournal_4 ⟨Nat.le_of_ble_eq_true rfl, Nat.le_of_ble_eq_true rfl⟩) ?_
  refine W.eq (g2 := F0 m 7 ls [.int (if 200 ≤ ds.length then 1 else 0)]) rfl ?_
  refine lv_if_eq (tgt := 20) hx hb d_Bd_refuseFullJournal_7 (by decide) (fun _ => ?_) (fun c9 => absurd (if_neg (by rw [h7s.1]; omega)) c9)
  exact x_vret hx hb hr hlocks rfl (fun q hq => by cases hq) (Nat.le_refl _) (Nat.le_refl _) d_Bd_refuseFullJournal_20
set_option maxHeartbeats 4000000 in
set_option maxRecDepth 100000 in
theorem c_Bd_refuseFullT (l : Launch) (hlt0 : l.stackTraces = false) {D : va_G} {A : Nat → ClassId} {H0 : Heap} {a z : Nat} {S : g_S} (hd : g_D D A a z S H0) (hge : 200 ≤ S.2.2.2.2.2.1.length) : x_MetT l y_Bd_refuseFullJournal w_Bd_refuseFullJournal { frames := 6, cells := 1, slots := 6, locals := 90 } (x_PcT D A (g_Mx a z) [.ref a] H0) (x_QT "java/lang/IllegalStateException" (fun H1 => H0.size ≤ H1.size ∧ ∀ q : Nat, q < H0.size → H1[q]? = H0[q]?)) 1 6 (fun q => H0.size ≤ q) := by
  refine x_ofWT (cc := prog_1_method_16_code) (maxL := 1) (ret := none) (by decide) rfl ?_
  intro p e s m args below meth c s₁ B hml hv
  obtain ⟨rfl, hH, hK, hN, hT⟩ := hv
  obtain ⟨hx, hb, hr, htb, hown, hlocks⟩ := x_start (wd := Cond.code y_Bd_refuseFullJournal prog_1_method_16_code 1 none) B
  have hout := x_nohand B
  have hTs : x_T (g_Mx a z) s s.heap := by rw [hH]; exact hT
  have hl := lv_entry ([.ref a]) (n := 1) (Nat.le_of_ble_eq_true rfl)
  rw [lg_entry_eq]
  generalize (lg_sl ([.ref a]) ++ List.replicate (1 - (lg_sl ([.ref a])).length) Slot.unset).toArray = ls at hl ⊢
  have hl : lv_has ls 1 [(0, .ref a)] := hl
  rw [hH]
  have hL : ∀ q ∈ ([] : List Loc), (fun q : Nat => H0.size ≤ q) q.base := fun q hq => by cases hq
  obtain ⟨pa, as, bs, cs, ds, h1, h2, h3, ⟨h4, h4s⟩, ⟨h5, h5s⟩, ⟨h6, h6s⟩, ⟨h7, h7s⟩, h8, h9⟩ := id hd
  obtain ⟨g7, g71, -⟩ := id h7
  refine lv_aload_n hx hb d_Bd_refuseFullJournal_0 rfl (lv_at hl 0 rfl) ?_
  refine x_get (ci := 7) (T := T_Bd) hx hb htb u_Bd hown hK h1 rfl 4 (by decide) (htb _ mw_89) (fun _ h9 => h9) (v := .ref (z + 8)) rfl d_Bd_refuseFullJournal_1 ?_
  refine x_callP (va_runV (As := []) (rest := []) ⟨hx, hb, hml, hown, htb⟩ (c_Jo_isFull l h7) (x_cV 0 htb mw_362 mw_4 mw_365 mw_363 mw_364 rfl rfl (by decide +kernel) ⟨Nat.le_of_ble_eq_true rfl, Nat.le_of_ble_eq_true rfl⟩) (x_preV hK hN g71 rfl) rfl rfl hl.1 rfl (lv_room (Nat.le_of_ble_eq_true rfl)) d_Bd_refuseFullJournal_4 ⟨Nat.le_of_ble_eq_true rfl, Nat.le_of_ble_eq_true rfl⟩) ?_
  refine W.eq (g2 := F0 m 7 ls [.int (if 200 ≤ ds.length then 1 else 0)]) rfl ?_
  refine lv_if_eq (tgt := 20) hx hb d_Bd_refuseFullJournal_7 (by decide) (fun c9 => absurd c9 (by rw [if_pos (by rw [h7s.1]; exact hge)]; decide)) (fun _ => ?_)
  exact x_thr hx hb hlt0 (by rw [hml]; exact hl.1.symm) hown (by decide) (by decide) (fun a ha => x_own htb hN hTs a (ow_90 a ha)) (htb _ mw_342) (htb _ mw_17) (htb _ mw_343) (hN.2 (173, "200 operations were done since the latest SYNC") (List.mem_of_getElem? (i := 3) rfl)) d_Bd_refuseFullJournal_10 d_Bd_refuseFullJournal_13 d_Bd_refuseFullJournal_14 d_Bd_refuseFullJournal_16 d_Bd_refuseFullJournal_19 hout (Nat.le_of_ble_eq_true rfl) (Nat.le_of_ble_eq_true rfl) (Nat.le_of_ble_eq_true rfl) (Nat.le_of_ble_eq_true rfl) (Nat.le_of_eq (by rw [hH])) (fun t cell e1 e2 e3 e4 e5 => ⟨_, cell, rfl, e1, e2, e3, by rw [← hH]; exact ⟨e4, e5⟩⟩) hlocks
theorem g_get_ex {fs : List g_F} {n : g_N} {f : g_F} (h : g_get fs n = some f) : ∃ j, g_find fs n = some j ∧ fs[j]? = some f := by
  unfold g_get at h
  cases hf : g_find fs n with
  | none => rw [hf] at h; cases h
  | some j => rw [hf] at h; exact ⟨j, rfl, h⟩
theorem g_get_no {fs : List g_F} {n : g_N} (h : g_get fs n = none) : g_find fs n = none := by
  cases hf : g_find fs n with
  | none => rfl
  | some j =>
    obtain ⟨f, hff⟩ := g_ex (g_find_lt hf)
    rw [g_get_some hf hff] at h
    cases h
set_option maxHeartbeats 4000000 in
set_option maxRecDepth 100000 in
theorem c_Bd_fileToChange (l : Launch) {D : va_G} {A : Nat → ClassId} {H0 : Heap} {a z : Nat} {S : g_S} (hd : g_D D A a z S H0) {x y : Int32} {f : g_F} (hg : g_get S.2.2.1 (x, y, S.2.1) = some f) : Met l y_Bd_fileToChange w_Bd_fileToChange { frames := 4, cells := 1, slots := 3, locals := 88 } (x_Pc D A [.ref a, .int x, .int y] H0) (x_Qr (fun fa H1 => g_sf D A (g_Mx a z) fa f H1 ∧ H0.size ≤ H1.size ∧ ∀ q : Nat, q < H0.size → H1[q]? = H0[q]?)) 1 3 (fun q => H0.size ≤ q) := by
  refine Met.ofW (cc := prog_1_method_17_code) (maxL := 4) (ret := (some (.object "BreakingDisk$StoredFile"))) (by decide) rfl ?_
  intro p e s m args below meth c s₁ B hml hv
  obtain ⟨rfl, hH, hK, hN⟩ := hv
  obtain ⟨hx, hb, hr, htb, hown, hlocks⟩ := x_start (wd := Cond.code y_Bd_fileToChange prog_1_method_17_code 4 (some (.object "BreakingDisk$StoredFile"))) B
  have hl := lv_entry ([.ref a, .int x, .int y]) (n := 4) (Nat.le_of_ble_eq_true rfl)
  rw [lg_entry_eq]
  generalize (lg_sl ([.ref a, .int x, .int y]) ++ List.replicate (4 - (lg_sl ([.ref a, .int x, .int y])).length) Slot.unset).toArray = ls at hl ⊢
  have hl : lv_has ls 4 [(0, .ref a), (1, .int x), (2, .int y)] := hl
  rw [hH]
  obtain ⟨pa, as, bs, cs, ds, h1, h2, h3, ⟨h4, h4s⟩, ⟨h5, h5s⟩, ⟨h6, h6s⟩, ⟨h7, h7s⟩, h8, h9⟩ := id hd
  have hL : ∀ q ∈ ([] : List Loc), (fun q : Nat => H0.size ≤ q) q.base := fun q hq => by cases hq
  refine lv_aload_n hx hb d_Bd_fileToChange_0 rfl (lv_at hl 0 rfl) ?_
  refine x_get (ci := 7) (T := T_Bd) hx hb htb u_Bd hown hK h1 rfl 1 (by decide) (htb _ mw_86) (fun _ h9 => h9) (v := .ref (z + 2)) rfl d_Bd_fileToChange_1 ?_
  refine lv_aload_n hx hb d_Bd_fileToChange_4 rfl (lv_at hl 0 rfl) ?_
  refine lv_iload_n hx hb d_Bd_fileToChange_5 rfl (lv_at hl 1 rfl) ?_
  refine lv_iload_n hx hb d_Bd_fileToChange_6 rfl (lv_at hl 2 rfl) ?_
  refine x_call (F := fun q : Nat => H0.size ≤ q) (va_runV (As := [.int x, .int y]) (rest := [.ref (z + 2)]) ⟨hx, hb, hml, hown, htb⟩ (c_Bd_nameOf l hd x y) (x_cV 2 htb mw_131 mw_1 mw_134 mw_133 ms_0 rfl rfl (by decide +kernel) ⟨Nat.le_of_ble_eq_true rfl, Nat.le_of_ble_eq_true rfl⟩) (x_preV hK hN h1 rfl) rfl rfl hl.1 rfl (lv_room (Nat.le_of_ble_eq_true rfl)) d_Bd_fileToChange_7 ⟨Nat.le_of_ble_eq_true rfl, Nat.le_of_ble_eq_true rfl⟩) hL (fun q hq => hq) (fun H1 locs hP hL => ?_)
  refine W.eq (g2 := F0 m 10 ls [.ref H0.size, .ref (z + 2)]) rfl ?_
  obtain ⟨k1, k1z, k1o⟩ := hP
  have hd1 := hd.ext (by omega) k1o
  have hk1 : g_K (g_M a z) H0 H1 := g_K.ext k1z k1o
  have h4 := h4.kept (k1o _ (by omega)) (k1o _ (by omega))
  have h4s := h4s.kept hk1
  obtain ⟨g, g1, -⟩ := id h4
  obtain ⟨j, hfi, hff⟩ := g_get_ex hg
  obtain ⟨fa, hfa⟩ := g_ex (as := as) (j := j) (by rw [h4s.1]; exact g_find_lt hfi)
  have hsf := h4s.2 j fa f hfa hff
  refine x_callP (va_runV (As := [.ref H0.size]) (rest := []) ⟨hx, hb, hml, hown, htb⟩ (c_Fi_find l h4 h4s k1 hfi hfa) (x_cV 1 htb mw_154 mw_3 mw_157 mw_155 mw_156 rfl rfl (by decide +kernel) ⟨Nat.le_of_ble_eq_true rfl, Nat.le_of_ble_eq_true rfl⟩) (x_preV hK hN g1 rfl) rfl rfl hl.1 rfl (lv_room (Nat.le_of_ble_eq_true rfl)) d_Bd_fileToChange_10 ⟨Nat.le_of_ble_eq_true rfl, Nat.le_of_ble_eq_true rfl⟩) ?_
  refine W.eq (g2 := F0 m 13 ls [.ref fa]) rfl ?_
  refine lv_astore_n (lv' := [(3, .ref fa), (0, .ref a), (1, .int x), (2, .int y)]) hx hb d_Bd_fileToChange_13 rfl hl (by decide) rfl (fun ls hl => ?_)
  refine lv_aload_n hx hb d_Bd_fileToChange_14 rfl (lv_at hl 0 rfl) ?_
  refine lv_ifnonnull (tgt := 28) hx hb d_Bd_fileToChange_15 (by decide) ?_
  refine lv_aload_n hx hb d_Bd_fileToChange_28 rfl (lv_at hl 0 rfl) ?_
  exact x_aretr hx hb hr (Or.inl ⟨_, rfl⟩) hlocks ⟨hsf, by omega, k1o⟩ hL (Nat.le_refl _) (Nat.le_refl _) d_Bd_fileToChange_29
set_option maxHeartbeats 4000000 in
set_option maxRecDepth 100000 in
theorem c_Bd_fileToChangeT (l : Launch) (hlt0 : l.stackTraces = false) {D : va_G} {A : Nat → ClassId} {H0 : Heap} {a z : Nat} {S : g_S} (hd : g_D D A a z S H0) {x y : Int32} (hg : g_get S.2.2.1 (x, y, S.2.1) = none) : x_MetT l y_Bd_fileToChange w_Bd_fileToChange { frames := 6, cells := 2, slots := 9, locals := 90 } (x_PcT D A (g_Mx a z) [.ref a, .int x, .int y] H0) (x_QT "java/lang/IllegalArgumentException" (fun H1 => H0.size ≤ H1.size ∧ ∀ q : Nat, q < H0.size → H1[q]? = H0[q]?)) 2 9 (fun q => H0.size ≤ q) := by
  refine x_ofWT (cc := prog_1_method_17_code) (maxL := 4) (ret := (some (.object "BreakingDisk$StoredFile"))) (by decide) rfl ?_
  intro p e s m args below meth c s₁ B hml hv
  obtain ⟨rfl, hH, hK, hN, hT⟩ := hv
  obtain ⟨hx, hb, hr, htb, hown, hlocks⟩ := x_start (wd := Cond.code y_Bd_fileToChange prog_1_method_17_code 4 (some (.object "BreakingDisk$StoredFile"))) B
  have hout := x_nohand B
  have hTs : x_T (g_Mx a z) s s.heap := by rw [hH]; exact hT
  have hl := lv_entry ([.ref a, .int x, .int y]) (n := 4) (Nat.le_of_ble_eq_true rfl)
  rw [lg_entry_eq]
  generalize (lg_sl ([.ref a, .int x, .int y]) ++ List.replicate (4 - (lg_sl ([.ref a, .int x, .int y])).length) Slot.unset).toArray = ls at hl ⊢
  have hl : lv_has ls 4 [(0, .ref a), (1, .int x), (2, .int y)] := hl
  rw [hH]
  have hL : ∀ q ∈ ([] : List Loc), (fun q : Nat => H0.size ≤ q) q.base := fun q hq => by cases hq
  obtain ⟨pa, as, bs, cs, ds, h1, h2, h3, ⟨h4, h4s⟩, ⟨h5, h5s⟩, ⟨h6, h6s⟩, ⟨h7, h7s⟩, h8, h9⟩ := id hd
  refine lv_aload_n hx hb d_Bd_fileToChange_0 rfl (lv_at hl 0 rfl) ?_
  refine x_get (ci := 7) (T := T_Bd) hx hb htb u_Bd hown hK h1 rfl 1 (by decide) (htb _ mw_86) (fun _ h9 => h9) (v := .ref (z + 2)) rfl d_Bd_fileToChange_1 ?_
  refine lv_aload_n hx hb d_Bd_fileToChange_4 rfl (lv_at hl 0 rfl) ?_
  refine lv_iload_n hx hb d_Bd_fileToChange_5 rfl (lv_at hl 1 rfl) ?_
  refine lv_iload_n hx hb d_Bd_fileToChange_6 rfl (lv_at hl 2 rfl) ?_
  refine x_call (F := fun q : Nat => H0.size ≤ q) (va_runV (As := [.int x, .int y]) (rest := [.ref (z + 2)]) ⟨hx, hb, hml, hown, htb⟩ (c_Bd_nameOf l hd x y) (x_cV 2 htb mw_131 mw_1 mw_134 mw_133 ms_0 rfl rfl (by decide +kernel) ⟨Nat.le_of_ble_eq_true rfl, Nat.le_of_ble_eq_true rfl⟩) (x_preV hK hN h1 rfl) rfl rfl hl.1 rfl (lv_room (Nat.le_of_ble_eq_true rfl)) d_Bd_fileToChange_7 ⟨Nat.le_of_ble_eq_true rfl, Nat.le_of_ble_eq_true rfl⟩) hL (fun q hq => hq) (fun H1 locs hP hL => ?_)
  refine W.eq (g2 := F0 m 10 ls [.ref H0.size, .ref (z + 2)]) rfl ?_
  obtain ⟨k1, k1z, k1o⟩ := hP
  have hd1 := hd.ext (by omega) k1o
  have hk1 : g_K (g_M a z) H0 H1 := g_K.ext k1z k1o
  have h4 := h4.kept (k1o _ (by omega)) (k1o _ (by omega))
  have h4s := h4s.kept hk1
  obtain ⟨g, g1, -⟩ := id h4
  refine x_callP (va_runV (As := [.ref H0.size]) (rest := []) ⟨hx, hb, hml, hown, htb⟩ (c_Fi_findN l h4 h4s k1 (g_get_no hg)) (x_cV 1 htb mw_154 mw_3 mw_157 mw_155 mw_156 rfl rfl (by decide +kernel) ⟨Nat.le_of_ble_eq_true rfl, Nat.le_of_ble_eq_true rfl⟩) (x_preV hK hN g1 rfl) rfl rfl hl.1 rfl (lv_room (Nat.le_of_ble_eq_true rfl)) d_Bd_fileToChange_10 ⟨Nat.le_of_ble_eq_true rfl, Nat.le_of_ble_eq_true rfl⟩) ?_
  refine W.eq (g2 := F0 m 13 ls [.null]) rfl ?_
  refine lv_astore_nN (lv' := [(3, .null), (0, .ref a), (1, .int x), (2, .int y)]) hx hb d_Bd_fileToChange_13 rfl hl (by decide) rfl (fun ls hl => ?_)
  refine lv_aload_nN hx hb d_Bd_fileToChange_14 rfl (lv_at hl 0 rfl) ?_
  refine lv_ifnonnullN hx hb d_Bd_fileToChange_15 ?_
  refine va_forget (fun q hq => by rw [hH]; exact hL q hq) ?_
  exact x_thr hx hb hlt0 (by rw [hml]; exact hl.1.symm) hown (by decide) (by decide) (fun a ha => x_own htb hN hTs a (ow_60 a ha)) (htb _ mw_221) (htb _ mw_10) (htb _ mw_222) (hN.2 (175, "there is no such file") (List.mem_of_getElem? (i := 4) rfl)) d_Bd_fileToChange_18 d_Bd_fileToChange_21 d_Bd_fileToChange_22 d_Bd_fileToChange_24 d_Bd_fileToChange_27 hout (Nat.le_of_ble_eq_true rfl) (Nat.le_of_ble_eq_true rfl) (Nat.le_of_ble_eq_true rfl) (Nat.le_of_ble_eq_true rfl) (by rw [hH, k1z]; omega) (fun t cell e1 e2 e3 e4 e5 => ⟨_, cell, rfl, e1, e2, e3, by rw [← hH]; exact ⟨e4, e5⟩⟩) hlocks
set_option maxHeartbeats 4000000 in
set_option maxRecDepth 100000 in
theorem c_Bd_pathT (l : Launch) (hlt0 : l.stackTraces = false) {D : va_G} {A : Nat → ClassId} {H0 : Heap} {a z : Nat} {S : g_S} (hd : g_D D A a z S H0) (hlen : 100 < S.1.length) : x_MetT l y_Bd_path w_Bd_path { frames := 6, cells := 1, slots := 6, locals := 103 } (x_PcT D A (g_Mx a z) [.ref a] H0) (x_QT "java/lang/IllegalArgumentException" (fun H1 => H0.size ≤ H1.size ∧ ∀ q : Nat, q < H0.size → H1[q]? = H0[q]?)) 1 6 (fun q => H0.size ≤ q) := by
  refine x_ofWT (cc := prog_1_method_3_code) (maxL := 1) (ret := (some .int)) (by decide) rfl ?_
  intro p e s m args below meth c s₁ B hml hv
  obtain ⟨rfl, hH, hK, hN, hT⟩ := hv
  obtain ⟨hx, hb, hr, htb, hown, hlocks⟩ := x_start (wd := Cond.code y_Bd_path prog_1_method_3_code 1 (some .int)) B
  have hout := x_nohand B
  have hTs : x_T (g_Mx a z) s s.heap := by rw [hH]; exact hT
  have hl := lv_entry ([.ref a]) (n := 1) (Nat.le_of_ble_eq_true rfl)
  rw [lg_entry_eq]
  generalize (lg_sl ([.ref a]) ++ List.replicate (1 - (lg_sl ([.ref a])).length) Slot.unset).toArray = ls at hl ⊢
  have hl : lv_has ls 1 [(0, .ref a)] := hl
  rw [hH]
  have hL : ∀ q ∈ ([] : List Loc), (fun q : Nat => H0.size ≤ q) q.base := fun q hq => by cases hq
  obtain ⟨pa, as, bs, cs, ds, h1, h2, h3, ⟨h4, h4s⟩, ⟨h5, h5s⟩, ⟨h6, h6s⟩, ⟨h7, h7s⟩, h8, h9⟩ := id hd
  obtain ⟨f, t1, -, -, -, t5, -⟩ := id h2
  refine lv_aload_n hx hb d_Bd_path_0 rfl (lv_at hl 0 rfl) ?_
  refine x_get (ci := 7) (T := T_Bd) hx hb htb u_Bd hown hK h1 rfl 0 (by decide) (htb _ mw_85) (fun _ h9 => h9) (v := .ref z) rfl d_Bd_path_1 ?_
  refine x_getN (ci := 4) (T := T_Tp) hx hb htb u_Tp hown hK t1 rfl 1 (by decide) (va_Nw.use rfl (hN.1 _ nf_36)) (fun _ h9 => h9) (v := .int (nI S.1.length)) rfl d_Bd_path_4 ?_
  refine lv_bipush (v := 100) hx hb d_Bd_path_7 (by decide) ?_
  refine lv_icmp_le (tgt := 22) hx hb d_Bd_path_9 (by decide) (fun c9 => absurd c9 (nI_ge (a := 100) (b := S.1.length) hlen (by omega))) (fun _ => ?_)
  exact x_thr hx hb hlt0 (by rw [hml]; exact hl.1.symm) hown (by decide) (by decide) (fun a ha => x_own htb hN hTs a (ow_60 a ha)) (htb _ mw_221) (htb _ mw_10) (htb _ mw_222) (hN.2 (58, "the tape is too long for a PATH") (List.mem_of_getElem? (i := 0) rfl)) d_Bd_path_12 d_Bd_path_15 d_Bd_path_16 d_Bd_path_18 d_Bd_path_21 hout (Nat.le_of_ble_eq_true rfl) (Nat.le_of_ble_eq_true rfl) (Nat.le_of_ble_eq_true rfl) (Nat.le_of_ble_eq_true rfl) (Nat.le_of_eq (by rw [hH])) (fun t cell e1 e2 e3 e4 e5 => ⟨_, cell, rfl, e1, e2, e3, by rw [← hH]; exact ⟨e4, e5⟩⟩) hlocks
set_option maxHeartbeats 4000000 in
set_option maxRecDepth 100000 in
theorem c_Bd_breakOffT (l : Launch) (hlt0 : l.stackTraces = false) {D : va_G} {A : Nat → ClassId} {H0 : Heap} {M : Nat → Prop} {a : Nat} {n : Int32} (hn : n < 0) : x_MetT l y_Bd_breakOff w_Bd_breakOff { frames := 6, cells := 1, slots := 6, locals := 90 } (x_PcT D A M [.ref a, .int n] H0) (x_QT "java/lang/IllegalArgumentException" (fun H1 => H0.size ≤ H1.size ∧ ∀ q : Nat, q < H0.size → H1[q]? = H0[q]?)) 1 6 (fun q => H0.size ≤ q) := by
  refine x_ofWT (cc := prog_1_method_8_code) (maxL := 3) (ret := (some .int)) (by decide) rfl ?_
  intro p e s m args below meth c s₁ B hml hv
  obtain ⟨rfl, hH, hK, hN, hT⟩ := hv
  obtain ⟨hx, hb, hr, htb, hown, hlocks⟩ := x_start (wd := Cond.code y_Bd_breakOff prog_1_method_8_code 3 (some .int)) B
  have hout := x_nohand B
  have hTs : x_T M s s.heap := by rw [hH]; exact hT
  have hl := lv_entry ([.ref a, .int n]) (n := 3) (Nat.le_of_ble_eq_true rfl)
  rw [lg_entry_eq]
  generalize (lg_sl ([.ref a, .int n]) ++ List.replicate (3 - (lg_sl ([.ref a, .int n])).length) Slot.unset).toArray = ls at hl ⊢
  have hl : lv_has ls 3 [(0, .ref a), (1, .int n)] := hl
  rw [hH]
  have hL : ∀ q ∈ ([] : List Loc), (fun q : Nat => H0.size ≤ q) q.base := fun q hq => by cases hq
  refine lv_iload_n hx hb d_Bd_breakOff_0 rfl (lv_at hl 1 rfl) ?_
  refine lv_if_ge (tgt := 14) hx hb d_Bd_breakOff_1 (by decide) (fun c9 => absurd c9 (Int32.not_le.mpr hn)) (fun _ => ?_)
  exact x_thr hx hb hlt0 (by rw [hml]; exact hl.1.symm) hown (by decide) (by decide) (fun a ha => x_own htb hN hTs a (ow_60 a ha)) (htb _ mw_221) (htb _ mw_10) (htb _ mw_222) (hN.2 (127, "n is below 0") (List.mem_of_getElem? (i := 5) rfl)) d_Bd_breakOff_4 d_Bd_breakOff_7 d_Bd_breakOff_8 d_Bd_breakOff_10 d_Bd_breakOff_13 hout (Nat.le_of_ble_eq_true rfl) (Nat.le_of_ble_eq_true rfl) (Nat.le_of_ble_eq_true rfl) (Nat.le_of_ble_eq_true rfl) (Nat.le_of_eq (by rw [hH])) (fun t cell e1 e2 e3 e4 e5 => ⟨_, cell, rfl, e1, e2, e3, by rw [← hH]; exact ⟨e4, e5⟩⟩) hlocks
end
section
/-! THE DISK: write, rename, delete -/
theorem g_bs.weaken {D : va_G} {A : Nat → ClassId} {M M' : Nat → Prop} {a : Nat} {us : List Nat} {H : Heap} (h : g_bs D A M' a us H) (hM : ∀ q, M q → M' q) : g_bs D A M a us H := by
  obtain ⟨r, h1, h2, h3, h4, h5⟩ := h
  exact ⟨r, h1, h2, fun q => h3 (hM _ q), fun q => h4 (hM _ q), h5⟩
set_option maxHeartbeats 4000000 in
set_option maxRecDepth 100000 in
theorem c_Bd_name2 (l : Launch) {D : va_G} {A : Nat → ClassId} {H0 : Heap} {a z pa : Nat} {n : Int32} (h1 : va_at D x_cl (a, .inr (7, [.ref z, .ref (z + 2), .ref (z + 4), .ref (z + 6), .ref (z + 8), .ref pa, .int n])) H0) (x y : Int32) : Met l y_Bd_nameOf w_Bd_nameOf { frames := 2, cells := 1, slots := 3, locals := 35 } (x_Pc D A [.ref a, .int x, .int y] H0) (x_Q (some (.ref H0.size)) (fun H1 => va_at D x_cl (H0.size, .inr (1, [.int x, .int y, .ref pa])) H1 ∧ H1.size = H0.size + 1 ∧ ∀ q : Nat, q < H0.size → H1[q]? = H0[q]?)) 1 3 (fun q => H0.size ≤ q) := by
  refine Met.ofW (cc := prog_1_method_18_code) (maxL := 3) (ret := (some (.object "BreakingDisk$Name"))) (by decide) rfl ?_
  intro p e s m args below meth c s₁ B hml hv
  obtain ⟨rfl, hH, hK, hN⟩ := hv
  obtain ⟨hx, hb, hr, htb, hown, hlocks⟩ := x_start (wd := Cond.code y_Bd_nameOf prog_1_method_18_code 3 (some (.object "BreakingDisk$Name"))) B
  have hl := lv_entry ([.ref a, .int x, .int y]) (n := 3) (Nat.le_of_ble_eq_true rfl)
  rw [lg_entry_eq]
  generalize (lg_sl ([.ref a, .int x, .int y]) ++ List.replicate (3 - (lg_sl ([.ref a, .int x, .int y])).length) Slot.unset).toArray = ls at hl ⊢
  have hl : lv_has ls 3 [(0, .ref a), (1, .int x), (2, .int y)] := hl
  rw [hH]
  have hL : ∀ q ∈ ([] : List Loc), (fun q : Nat => H0.size ≤ q) q.base := fun q hq => by cases hq
  have ha := h1.lt
  have ha : a < H0.size := ha
  refine x_new (ci := 1) (fs := [.int 0, .int 0, .null]) (T := T_Nm) (N := 3) hx hb htb u_Nm t_Nm t_Nm_ok hown (htb _ mw_135) (htb _ mw_136) (htb _ mw_15) hK rfl df_Nm (Nat.le_of_ble_eq_true rfl) (Nat.le_of_ble_eq_true rfl) d_Bd_nameOf_0 (fun H1 k1 k1z k1o => ?_)
  have q1 := h1.kept (k1o a ha)
  refine lv_dup hx hb d_Bd_nameOf_3 rfl ?_
  refine lv_iload_n hx hb d_Bd_nameOf_4 rfl (lv_at hl 1 rfl) ?_
  refine lv_iload_n hx hb d_Bd_nameOf_5 rfl (lv_at hl 2 rfl) ?_
  refine lv_aload_n hx hb d_Bd_nameOf_6 rfl (lv_at hl 0 rfl) ?_
  refine x_get (ci := 7) (T := T_Bd) hx hb htb u_Bd hown hK q1 rfl 5 (by decide) (htb _ mw_90) (fun _ h9 => h9) (v := .ref pa) rfl d_Bd_nameOf_7 ?_
  refine x_call (F := fun q : Nat => H0.size ≤ q) (va_runI (As := [.int x, .int y, .ref pa]) (rest := [.ref H0.size]) ⟨hx, hb, hml, hown, htb⟩ (c_Nm_init l k1) (x_cI 3 htb mw_137 mw_15 mw_139 mw_138 rfl rfl rfl (by decide +kernel) ⟨Nat.le_of_ble_eq_true rfl, Nat.le_of_ble_eq_true rfl⟩) (x_preS hK hN) rfl rfl hl.1 rfl (lv_room (Nat.le_of_ble_eq_true rfl)) d_Bd_nameOf_10 ⟨Nat.le_of_ble_eq_true rfl, Nat.le_of_ble_eq_true rfl⟩) hL (fun q hq => by rw [hq]; exact Nat.le_refl _) (fun H2 locs hP hL => ?_)
  refine W.eq (g2 := F0 m 13 ls [.ref H0.size]) rfl ?_
  obtain ⟨k3, hb3⟩ := hP
  exact x_aret hx hb hr (Or.inl ⟨_, rfl⟩) (Or.inr ⟨_, rfl⟩) hlocks ⟨k3, by rw [hb3.1, k1z], fun q hq => by rw [hb3.2 q (by omega), k1o q hq]⟩ hL (Nat.le_refl _) (Nat.le_refl _) d_Bd_nameOf_13
set_option maxHeartbeats 4000000 in
set_option maxRecDepth 100000 in
theorem c_Bd_write (l : Launch) {D : va_G} {A : Nat → ClassId} {H0 : Heap} {a z : Nat} {S : g_S} (hd : g_D D A a z S H0) {x y : Int32} (hok : g_ok x y) (hroom : S.2.2.1.length < 60 ∨ ∃ f, g_get S.2.2.1 (x, y, S.2.1) = some f) (hlt : S.2.2.2.2.2.1.length < 200) : Met l y_Bd_write w_Bd_write { frames := 6, cells := 5, slots := 408, locals := 132 } (x_Pc D A [.ref a, .int x, .int y] H0) (x_Q none (fun H1 => g_D D A a z ([], S.2.1, g_ap S.2.2.1 ((x, y, S.2.1), some ((x, y, S.2.1), S.1)), S.2.2.2.1, S.2.2.2.2.1, S.2.2.2.2.2.1 ++ [((x, y, S.2.1), some ((x, y, S.2.1), S.1))], S.2.2.2.2.2.2 + 1) H1 ∧ g_K (g_M a z) H0 H1)) 5 408 (x_fr (g_Mx a z) H0) := by
  refine Met.ofW (cc := prog_1_method_4_code) (maxL := 4) (ret := none) (by decide) rfl ?_
  intro p e s m args below meth c s₁ B hml hv
  obtain ⟨rfl, hH, hK, hN⟩ := hv
  obtain ⟨hx, hb, hr, htb, hown, hlocks⟩ := x_start (wd := Cond.code y_Bd_write prog_1_method_4_code 4 none) B
  have hl := lv_entry ([.ref a, .int x, .int y]) (n := 4) (Nat.le_of_ble_eq_true rfl)
  rw [lg_entry_eq]
  generalize (lg_sl ([.ref a, .int x, .int y]) ++ List.replicate (4 - (lg_sl ([.ref a, .int x, .int y])).length) Slot.unset).toArray = ls at hl ⊢
  have hl : lv_has ls 4 [(0, .ref a), (1, .int x), (2, .int y)] := hl
  rw [hH]
  obtain ⟨pa, as, bs, cs, ds, h1, h2, h3, ⟨h4, h4s⟩, ⟨h5, h5s⟩, ⟨h6, h6s⟩, ⟨h7, h7s⟩, h8, h9⟩ := id hd
  have hL : ∀ q ∈ ([] : List Loc), x_fr (g_Mx a z) H0 q.base := fun q hq => by cases hq
  refine lv_iload_n hx hb d_Bd_write_0 rfl (lv_at hl 1 rfl) ?_
  refine lv_iload_n hx hb d_Bd_write_1 rfl (lv_at hl 2 rfl) ?_
  refine x_callP (va_runS (As := [.int x, .int y]) (rest := []) ⟨hx, hb, hml, hown, htb⟩ (c_Bd_refuse l hok) (x_cS 2 htb mw_319 mw_1 mw_321 mw_320 rfl rfl (by decide +kernel) ⟨Nat.le_of_ble_eq_true rfl, Nat.le_of_ble_eq_true rfl⟩) (x_preS hK hN) rfl rfl hl.1 rfl (lv_room (Nat.le_of_ble_eq_true rfl)) d_Bd_write_2 ⟨Nat.le_of_ble_eq_true rfl, Nat.le_of_ble_eq_true rfl⟩) ?_
  refine W.eq (g2 := F0 m 5 ls []) rfl ?_
  refine lv_aload_n hx hb d_Bd_write_5 rfl (lv_at hl 0 rfl) ?_
  refine lv_iload_n hx hb d_Bd_write_6 rfl (lv_at hl 1 rfl) ?_
  refine lv_iload_n hx hb d_Bd_write_7 rfl (lv_at hl 2 rfl) ?_
  refine x_call (F := x_fr (g_Mx a z) H0) (va_runV (As := [.int x, .int y]) (rest := []) ⟨hx, hb, hml, hown, htb⟩ (c_Bd_name2 l h1 x y) (x_cV 2 htb mw_131 mw_1 mw_134 mw_133 ms_0 rfl rfl (by decide +kernel) ⟨Nat.le_of_ble_eq_true rfl, Nat.le_of_ble_eq_true rfl⟩) (x_preV hK hN h1 rfl) rfl rfl hl.1 rfl (lv_room (Nat.le_of_ble_eq_true rfl)) d_Bd_write_8 ⟨Nat.le_of_ble_eq_true rfl, Nat.le_of_ble_eq_true rfl⟩) hL (fun q hq => Or.inr hq) (fun H1 locs hP hL => ?_)
  refine W.eq (g2 := F0 m 11 ls [.ref H0.size]) rfl ?_
  obtain ⟨k1, k1z, k1o⟩ := hP
  have hd1 := hd.ext (by omega) k1o
  have hk1 : g_K (g_M a z) H0 H1 := g_K.ext k1z k1o
  have q1 := h1.kept (k1o a (by omega))
  have q4 := h4.kept (k1o _ (by omega)) (k1o _ (by omega))
  have q4s := h4s.kept hk1
  have qn : g_nm D A (g_Mx a z) H0.size (x, y, S.2.1) H1 := ⟨pa, k1, hd.new _ (Nat.le_refl _), h3.kept hk1⟩
  obtain ⟨g, g1, -⟩ := id q4
  refine lv_astore_n (lv' := [(3, .ref H0.size), (0, .ref a), (1, .int x), (2, .int y)]) hx hb d_Bd_write_11 rfl hl (by decide) rfl (fun ls hl => ?_)
  refine lv_aload_n hx hb d_Bd_write_12 rfl (lv_at hl 1 rfl) ?_
  refine x_get (ci := 7) (T := T_Bd) hx hb htb u_Bd hown hK q1 rfl 1 (by decide) (htb _ mw_86) (fun _ h9 => h9) (v := .ref (z + 2)) rfl d_Bd_write_13 ?_
  have rest43 : ∀ ls, lv_has ls 4 [(3, .ref H0.size), (0, .ref a), (1, .int x), (2, .int y)] → W p l e (headSpec w_Bd_write { frames := 6, cells := 5, slots := 408, locals := 132 }).room s m [Value.ref a, Value.int x, Value.int y].toArray below meth c H1 locs 1 3 (MQ below (x_Q none (fun H1 => g_D D A a z ([], S.2.1, g_ap S.2.2.1 ((x, y, S.2.1), some ((x, y, S.2.1), S.1)), S.2.2.2.1, S.2.2.2.2.1, S.2.2.2.2.2.1 ++ [((x, y, S.2.1), some ((x, y, S.2.1), S.1))], S.2.2.2.2.2.2 + 1) H1 ∧ g_K (g_M a z) H0 H1)) [Value.ref a, Value.int x, Value.int y].toArray s 5 408 (x_fr (g_Mx a z) H0)) (F0 m 43 ls []) := by
    intro ls hl
    refine lv_aload_n hx hb d_Bd_write_43 rfl (lv_at hl 1 rfl) ?_
    refine x_callP (va_runV (As := []) (rest := []) ⟨hx, hb, hml, hown, htb⟩ (c_Bd_refuseFull l hd1 hlt) (x_cV 0 htb mw_358 mw_1 mw_361 mw_360 ms_3 rfl rfl (by decide +kernel) ⟨Nat.le_of_ble_eq_true rfl, Nat.le_of_ble_eq_true rfl⟩) (x_preV hK hN q1 rfl) rfl rfl hl.1 rfl (lv_room (Nat.le_of_ble_eq_true rfl)) d_Bd_write_44 ⟨Nat.le_of_ble_eq_true rfl, Nat.le_of_ble_eq_true rfl⟩) ?_
    refine W.eq (g2 := F0 m 47 ls []) rfl ?_
    refine lv_aload_n hx hb d_Bd_write_47 rfl (lv_at hl 1 rfl) ?_
    refine x_new (ci := 3) (fs := [.null, .null]) (T := T_Op) (N := 2) hx hb htb u_Op t_Op t_Op_ok hown (htb _ mw_367) (htb _ mw_368) (htb _ mw_18) hK rfl df_Op (Nat.le_of_ble_eq_true rfl) (Nat.le_of_ble_eq_true rfl) d_Bd_write_48 (fun H2 k2 k2z k2o => ?_)
    refine lv_dup hx hb d_Bd_write_51 rfl ?_
    refine lv_aload_n hx hb d_Bd_write_52 rfl (lv_at hl 0 rfl) ?_
    refine x_new (ci := 2) (fs := [.null, .null]) (T := T_Sf) (N := 2) hx hb htb u_Sf t_Sf t_Sf_ok hown (htb _ mw_369) (htb _ mw_370) (htb _ mw_19) hK rfl df_Sf (Nat.le_of_ble_eq_true rfl) (Nat.le_of_ble_eq_true rfl) d_Bd_write_53 (fun H3 k3 k3z k3o => ?_)
    refine lv_dup hx hb d_Bd_write_56 rfl ?_
    refine lv_aload_n hx hb d_Bd_write_57 rfl (lv_at hl 0 rfl) ?_
    refine lv_aload_n hx hb d_Bd_write_58 rfl (lv_at hl 1 rfl) ?_
    have hd3 := (hd1.ext (by omega) k2o).ext (by omega) k3o
    obtain ⟨pa3, as3, bs3, cs3, ds3, r1, r2, -⟩ := id hd3
    obtain ⟨f3, t3, -⟩ := id r2
    refine x_get (ci := 7) (T := T_Bd) hx hb htb u_Bd hown hK r1 rfl 0 (by decide) (htb _ mw_85) (fun _ h9 => h9) (v := .ref z) rfl d_Bd_write_59 ?_
    have hz9 := hd.lt
    have hMn : ∀ q, H3.size ≤ q → ¬ (fun q => g_Mx a z q ∨ q = H1.size ∨ q = H2.size) q := fun q hq hM => by
      rcases hM with e | e | e
      · exact hd3.new q hq e
      · omega
      · omega
    refine x_call (F := x_fr (g_Mx a z) H0) (va_runV (As := []) (rest := [.ref H0.size, .ref H2.size, .ref H2.size, .ref H0.size, .ref H1.size, .ref H1.size, .ref a]) ⟨hx, hb, hml, hown, htb⟩ (c_Tp_take l (M := fun q => g_Mx a z q ∨ q = H1.size ∨ q = H2.size) r2 (Or.inl (g_M.in (i := 0) (by decide))) (Or.inl (g_M.in (i := 1) (by decide))) hMn (by omega)) (x_cV 0 htb mw_288 mw_2 mw_291 mw_289 mw_290 rfl rfl (by decide +kernel) ⟨Nat.le_of_ble_eq_true rfl, Nat.le_of_ble_eq_true rfl⟩) (x_preV hK hN t3 rfl) rfl rfl hl.1 rfl (lv_room (Nat.le_of_ble_eq_true rfl)) d_Bd_write_62 ⟨Nat.le_of_ble_eq_true rfl, Nat.le_of_ble_eq_true rfl⟩) hL (fun q hq => hq.elim (fun e => e.elim Or.inl (fun e => Or.inr (by omega))) (fun e => Or.inr (by omega))) (fun H4 locs hP hL => ?_)
    refine W.eq (g2 := F0 m 65 ls [.ref H3.size, .ref H0.size, .ref H2.size, .ref H2.size, .ref H0.size, .ref H1.size, .ref H1.size, .ref a]) rfl ?_
    obtain ⟨b1, b2, b3, b4⟩ := hP
    have k3 := k3.kept (b4 _ (by omega) (by omega) (by omega))
    refine x_call (F := x_fr (g_Mx a z) H0) (va_runI (As := [.ref H0.size, .ref H3.size]) (rest := [.ref H2.size, .ref H0.size, .ref H1.size, .ref H1.size, .ref a]) ⟨hx, hb, hml, hown, htb⟩ (c_Sf_init l k3) (x_cI 2 htb mw_371 mw_19 mw_373 mw_372 rfl rfl rfl (by decide +kernel) ⟨Nat.le_of_ble_eq_true rfl, Nat.le_of_ble_eq_true rfl⟩) (x_preS hK hN) rfl rfl hl.1 rfl (lv_room (Nat.le_of_ble_eq_true rfl)) d_Bd_write_65 ⟨Nat.le_of_ble_eq_true rfl, Nat.le_of_ble_eq_true rfl⟩) hL (fun q hq => Or.inr (by rw [hq]; omega)) (fun H5 locs hP hL => ?_)
    refine W.eq (g2 := F0 m 68 ls [.ref H2.size, .ref H0.size, .ref H1.size, .ref H1.size, .ref a]) rfl ?_
    obtain ⟨k5, hb5⟩ := hP
    have k2 := hb5.at (((k2.kept (k3o _ (by omega)))).kept (b4 _ (by omega) (by omega) (by omega))) (by omega)
    refine x_call (F := x_fr (g_Mx a z) H0) (va_runI (As := [.ref H0.size, .ref H2.size]) (rest := [.ref H1.size, .ref a]) ⟨hx, hb, hml, hown, htb⟩ (c_Op_init l k2) (x_cI 2 htb mw_385 mw_18 mw_387 mw_386 rfl rfl rfl (by decide +kernel) ⟨Nat.le_of_ble_eq_true rfl, Nat.le_of_ble_eq_true rfl⟩) (x_preS hK hN) rfl rfl hl.1 rfl (lv_room (Nat.le_of_ble_eq_true rfl)) d_Bd_write_68 ⟨Nat.le_of_ble_eq_true rfl, Nat.le_of_ble_eq_true rfl⟩) hL (fun q hq => Or.inr (by rw [hq]; omega)) (fun H6 locs hP hL => ?_)
    refine W.eq (g2 := F0 m 71 ls [.ref H1.size, .ref a]) rfl ?_
    obtain ⟨k6, hb6⟩ := hP
    have hz6 : H6.size = H4.size := by rw [hb6.1, hb5.1]
    have hold1 : ∀ q : Nat, q < H1.size → q ≠ z → q ≠ z + 1 → H6[q]? = H1[q]? := fun q hq h1 h2 => by rw [hb6.2 q (by omega), hb5.2 q (by omega), b4 q (by omega) h1 h2, k3o q (by omega), k2o q hq]
    have hold : g_K2 z (z + 1) H0 H6 := ⟨by omega, fun q hq h1 h2 => by rw [hold1 q (by omega) h1 h2, k1o q hq]⟩
    have hk16 : g_K (g_M a z) H1 H6 := ⟨by omega, fun q hq hM => hold1 q hq (fun e => hM (e ▸ g_M.in (i := 0) (by decide))) (fun e => hM (e ▸ g_M.in (i := 1) (by decide)))⟩
    have hd6 := hd.tape1 hold (b2.kept (by rw [hb6.2 _ (by omega), hb5.2 _ (by omega)]) (by rw [hb6.2 _ (by omega), hb5.2 _ (by omega)]))
    have hkM : g_K (fun q => g_Mx a z q ∨ q = H1.size ∨ q = H2.size) H4 H6 := ⟨by omega, fun q _ hM => by rw [hb6.2 q (fun e => hM (Or.inr (Or.inl e))), hb5.2 q (fun e => hM (Or.inr (Or.inr e)))]⟩
    have hbs : g_bs D A (g_Mx a z) H3.size S.1 H6 := (b1.kept hkM).weaken (fun q hq => Or.inl hq)
    have hsf : g_sf D A (g_Mx a z) H2.size ((x, y, S.2.1), S.1) H6 := ⟨H0.size, H3.size, hb6.at k5 (by omega), hd.new _ (by omega), qn.kept hk16, hbs⟩
    have hop : g_op D A (g_Mx a z) H1.size ((x, y, S.2.1), some ((x, y, S.2.1), S.1)) H6 := ⟨H0.size, some H2.size, k6, hd.new _ (by omega), qn.kept hk16, hsf⟩
    obtain ⟨pa6, as6, bs6, cs6, ds6, s1, -⟩ := id hd6
    refine x_call (F := x_fr (g_Mx a z) H0) (va_runV (As := [.ref H1.size]) (rest := []) ⟨hx, hb, hml, hown, htb⟩ (c_Bd_perform l hd6 hop hlt) (x_cV 1 htb mw_398 mw_1 mw_401 mw_400 ms_4 rfl rfl (by decide +kernel) ⟨Nat.le_of_ble_eq_true rfl, Nat.le_of_ble_eq_true rfl⟩) (x_preV hK hN s1 rfl) rfl rfl hl.1 rfl (lv_room (Nat.le_of_ble_eq_true rfl)) d_Bd_write_71 ⟨Nat.le_of_ble_eq_true rfl, Nat.le_of_ble_eq_true rfl⟩) hL (fun q hq => hq.elim Or.inl (fun e => Or.inr (by omega))) (fun H7 locs hP hL => ?_)
    refine W.eq (g2 := F0 m 74 ls []) rfl ?_
    obtain ⟨c1, c2, -⟩ := hP
    have hk06 : g_K (g_M a z) H0 H6 := hk1.trans hk16
    exact x_vret hx hb hr hlocks ⟨c1, hk06.trans c2⟩ hL (Nat.le_refl _) (Nat.le_refl _) d_Bd_write_74
  refine x_callP (va_runV (As := []) (rest := []) ⟨hx, hb, hml, hown, htb⟩ (c_Fi_isFull l q4) (x_cV 0 htb mw_338 mw_3 mw_341 mw_339 mw_340 rfl rfl (by decide +kernel) ⟨Nat.le_of_ble_eq_true rfl, Nat.le_of_ble_eq_true rfl⟩) (x_preV hK hN g1 rfl) rfl rfl hl.1 rfl (lv_room (Nat.le_of_ble_eq_true rfl)) d_Bd_write_16 ⟨Nat.le_of_ble_eq_true rfl, Nat.le_of_ble_eq_true rfl⟩) ?_
  refine W.eq (g2 := F0 m 19 ls [.int (if 60 ≤ as.length then 1 else 0)]) rfl ?_
  refine lv_if_eq (tgt := 43) hx hb d_Bd_write_19 (by decide) (fun c1 => ?_) (fun c1 => ?_)
  · exact rest43 ls (lv_sub hl [0, 1, 2, 3] rfl)
  · have hge : 60 ≤ as.length := Nat.le_of_not_lt fun q => c1 (if_neg (by omega))
    obtain ⟨f, hg⟩ := hroom.resolve_left (by rw [← h4s.1]; omega)
    obtain ⟨j, hfi, hff⟩ := g_get_ex hg
    obtain ⟨fa, hfa⟩ := g_ex (as := as) (j := j) (by rw [q4s.1]; exact g_find_lt hfi)
    refine lv_aload_n hx hb d_Bd_write_22 rfl (lv_at hl 1 rfl) ?_
    refine x_get (ci := 7) (T := T_Bd) hx hb htb u_Bd hown hK q1 rfl 1 (by decide) (htb _ mw_86) (fun _ h9 => h9) (v := .ref (z + 2)) rfl d_Bd_write_23 ?_
    refine lv_aload_n hx hb d_Bd_write_26 rfl (lv_at hl 0 rfl) ?_
    refine x_callP (va_runV (As := [.ref H0.size]) (rest := []) ⟨hx, hb, hml, hown, htb⟩ (c_Fi_find l q4 q4s qn hfi hfa) (x_cV 1 htb mw_154 mw_3 mw_157 mw_155 mw_156 rfl rfl (by decide +kernel) ⟨Nat.le_of_ble_eq_true rfl, Nat.le_of_ble_eq_true rfl⟩) (x_preV hK hN g1 rfl) rfl rfl hl.1 rfl (lv_room (Nat.le_of_ble_eq_true rfl)) d_Bd_write_27 ⟨Nat.le_of_ble_eq_true rfl, Nat.le_of_ble_eq_true rfl⟩) ?_
    refine W.eq (g2 := F0 m 30 ls [.ref fa]) rfl ?_
    refine lv_ifnonnull (tgt := 43) hx hb d_Bd_write_30 (by decide) ?_
    exact rest43 ls (lv_sub hl [0, 1, 2, 3] rfl)
set_option maxHeartbeats 4000000 in
set_option maxRecDepth 100000 in
theorem c_Bd_writeT1 (l : Launch) (hlt0 : l.stackTraces = false) {D : va_G} {A : Nat → ClassId} {H0 : Heap} {a z : Nat} {S : g_S} (hd : g_D D A a z S H0) {x y : Int32} (hok : ¬ g_ok x y) : x_MetT l y_Bd_write w_Bd_write { frames := 7, cells := 1, slots := 6, locals := 111 } (x_PcT D A (g_Mx a z) [.ref a, .int x, .int y] H0) (x_QT "java/lang/IndexOutOfBoundsException" (fun H1 => H0.size ≤ H1.size ∧ ∀ q : Nat, q < H0.size → H1[q]? = H0[q]?)) 1 6 (fun q => H0.size ≤ q) := by
  refine x_ofWT (cc := prog_1_method_4_code) (maxL := 4) (ret := none) (by decide) rfl ?_
  intro p e s m args below meth c s₁ B hml hv
  obtain ⟨rfl, hH, hK, hN, hT⟩ := hv
  obtain ⟨hx, hb, hr, htb, hown, hlocks⟩ := x_start (wd := Cond.code y_Bd_write prog_1_method_4_code 4 none) B
  have hout := x_nohand B
  have hTs : x_T (g_Mx a z) s s.heap := by rw [hH]; exact hT
  have hl := lv_entry ([.ref a, .int x, .int y]) (n := 4) (Nat.le_of_ble_eq_true rfl)
  rw [lg_entry_eq]
  generalize (lg_sl ([.ref a, .int x, .int y]) ++ List.replicate (4 - (lg_sl ([.ref a, .int x, .int y])).length) Slot.unset).toArray = ls at hl ⊢
  have hl : lv_has ls 4 [(0, .ref a), (1, .int x), (2, .int y)] := hl
  rw [hH]
  have hL : ∀ q ∈ ([] : List Loc), (fun q : Nat => H0.size ≤ q) q.base := fun q hq => by cases hq
  refine lv_iload_n hx hb d_Bd_write_0 rfl (lv_at hl 1 rfl) ?_
  refine lv_iload_n hx hb d_Bd_write_1 rfl (lv_at hl 2 rfl) ?_
  exact x_leaveT (F := fun q : Nat => H0.size ≤ q) (x_runST (As := [.int x, .int y]) (rest := []) ⟨hx, hb, hml, hown, htb⟩ (c_Bd_refuseT l hlt0 hok) (x_cS 2 htb mw_319 mw_1 mw_321 mw_320 rfl rfl (by decide +kernel) ⟨Nat.le_of_ble_eq_true rfl, Nat.le_of_ble_eq_true rfl⟩) (x_preST hK hN hT) rfl rfl hl.1 rfl (lv_room (Nat.le_of_ble_eq_true rfl)) d_Bd_write_2 ⟨Nat.le_of_ble_eq_true rfl, Nat.le_of_ble_eq_true rfl⟩) hL (fun q hq => hq) hout hlocks (fun H1 q => q)
set_option maxHeartbeats 4000000 in
set_option maxRecDepth 100000 in
theorem c_Bd_writeT2 (l : Launch) (hlt0 : l.stackTraces = false) {D : va_G} {A : Nat → ClassId} {H0 : Heap} {a z : Nat} {S : g_S} (hd : g_D D A a z S H0) {x y : Int32} (hok : g_ok x y) (hbad : 200 ≤ S.2.2.2.2.2.1.length ∨ (60 ≤ S.2.2.1.length ∧ g_get S.2.2.1 (x, y, S.2.1) = none)) : x_MetT l y_Bd_write w_Bd_write { frames := 7, cells := 2, slots := 9, locals := 110 } (x_PcT D A (g_Mx a z) [.ref a, .int x, .int y] H0) (x_QT "java/lang/IllegalStateException" (fun H1 => H0.size ≤ H1.size ∧ ∀ q : Nat, q < H0.size → H1[q]? = H0[q]?)) 2 9 (fun q => H0.size ≤ q) := by
  refine x_ofWT (cc := prog_1_method_4_code) (maxL := 4) (ret := none) (by decide) rfl ?_
  intro p e s m args below meth c s₁ B hml hv
  obtain ⟨rfl, hH, hK, hN, hT⟩ := hv
  obtain ⟨hx, hb, hr, htb, hown, hlocks⟩ := x_start (wd := Cond.code y_Bd_write prog_1_method_4_code 4 none) B
  have hout := x_nohand B
  have hTs : x_T (g_Mx a z) s s.heap := by rw [hH]; exact hT
  have hl := lv_entry ([.ref a, .int x, .int y]) (n := 4) (Nat.le_of_ble_eq_true rfl)
  rw [lg_entry_eq]
  generalize (lg_sl ([.ref a, .int x, .int y]) ++ List.replicate (4 - (lg_sl ([.ref a, .int x, .int y])).length) Slot.unset).toArray = ls at hl ⊢
  have hl : lv_has ls 4 [(0, .ref a), (1, .int x), (2, .int y)] := hl
  rw [hH]
  have hL : ∀ q ∈ ([] : List Loc), (fun q : Nat => H0.size ≤ q) q.base := fun q hq => by cases hq
  obtain ⟨pa, as, bs, cs, ds, h1, h2, h3, ⟨h4, h4s⟩, ⟨h5, h5s⟩, ⟨h6, h6s⟩, ⟨h7, h7s⟩, h8, h9⟩ := id hd
  refine lv_iload_n hx hb d_Bd_write_0 rfl (lv_at hl 1 rfl) ?_
  refine lv_iload_n hx hb d_Bd_write_1 rfl (lv_at hl 2 rfl) ?_
  refine x_callP (va_runS (As := [.int x, .int y]) (rest := []) ⟨hx, hb, hml, hown, htb⟩ (c_Bd_refuse l hok) (x_cS 2 htb mw_319 mw_1 mw_321 mw_320 rfl rfl (by decide +kernel) ⟨Nat.le_of_ble_eq_true rfl, Nat.le_of_ble_eq_true rfl⟩) (x_preS hK hN) rfl rfl hl.1 rfl (lv_room (Nat.le_of_ble_eq_true rfl)) d_Bd_write_2 ⟨Nat.le_of_ble_eq_true rfl, Nat.le_of_ble_eq_true rfl⟩) ?_
  refine W.eq (g2 := F0 m 5 ls []) rfl ?_
  refine lv_aload_n hx hb d_Bd_write_5 rfl (lv_at hl 0 rfl) ?_
  refine lv_iload_n hx hb d_Bd_write_6 rfl (lv_at hl 1 rfl) ?_
  refine lv_iload_n hx hb d_Bd_write_7 rfl (lv_at hl 2 rfl) ?_
  refine x_call (F := fun q : Nat => H0.size ≤ q) (va_runV (As := [.int x, .int y]) (rest := []) ⟨hx, hb, hml, hown, htb⟩ (c_Bd_name2 l h1 x y) (x_cV 2 htb mw_131 mw_1 mw_134 mw_133 ms_0 rfl rfl (by decide +kernel) ⟨Nat.le_of_ble_eq_true rfl, Nat.le_of_ble_eq_true rfl⟩) (x_preV hK hN h1 rfl) rfl rfl hl.1 rfl (lv_room (Nat.le_of_ble_eq_true rfl)) d_Bd_write_8 ⟨Nat.le_of_ble_eq_true rfl, Nat.le_of_ble_eq_true rfl⟩) hL (fun q hq => hq) (fun H1 locs hP hL => ?_)
  refine W.eq (g2 := F0 m 11 ls [.ref H0.size]) rfl ?_
  obtain ⟨k1, k1z, k1o⟩ := hP
  have hd1 := hd.ext (by omega) k1o
  have hk1 : g_K (g_M a z) H0 H1 := g_K.ext k1z k1o
  have hT := hT.kept hk1
  have q1 := h1.kept (k1o a (by omega))
  have q4 := h4.kept (k1o _ (by omega)) (k1o _ (by omega))
  have q4s := h4s.kept hk1
  have qn : g_nm D A (g_Mx a z) H0.size (x, y, S.2.1) H1 := ⟨pa, k1, hd.new _ (Nat.le_refl _), h3.kept hk1⟩
  obtain ⟨g, g1, -⟩ := id q4
  refine lv_astore_n (lv' := [(3, .ref H0.size), (0, .ref a), (1, .int x), (2, .int y)]) hx hb d_Bd_write_11 rfl hl (by decide) rfl (fun ls hl => ?_)
  refine lv_aload_n hx hb d_Bd_write_12 rfl (lv_at hl 1 rfl) ?_
  refine x_get (ci := 7) (T := T_Bd) hx hb htb u_Bd hown hK q1 rfl 1 (by decide) (htb _ mw_86) (fun _ h9 => h9) (v := .ref (z + 2)) rfl d_Bd_write_13 ?_
  refine x_callP (va_runV (As := []) (rest := []) ⟨hx, hb, hml, hown, htb⟩ (c_Fi_isFull l q4) (x_cV 0 htb mw_338 mw_3 mw_341 mw_339 mw_340 rfl rfl (by decide +kernel) ⟨Nat.le_of_ble_eq_true rfl, Nat.le_of_ble_eq_true rfl⟩) (x_preV hK hN g1 rfl) rfl rfl hl.1 rfl (lv_room (Nat.le_of_ble_eq_true rfl)) d_Bd_write_16 ⟨Nat.le_of_ble_eq_true rfl, Nat.le_of_ble_eq_true rfl⟩) ?_
  refine W.eq (g2 := F0 m 19 ls [.int (if 60 ≤ as.length then 1 else 0)]) rfl ?_
  refine lv_if_eq (tgt := 43) hx hb d_Bd_write_19 (by decide) (fun c1 => ?_) (fun c1 => ?_)
  · have hb2 : 200 ≤ S.2.2.2.2.2.1.length := hbad.resolve_right (fun e => by rw [if_pos (by rw [h4s.1]; exact e.1)] at c1; exact absurd c1 (by decide))
    refine lv_aload_n hx hb d_Bd_write_43 rfl (lv_at hl 1 rfl) ?_
    exact x_leaveT (F := fun q : Nat => H0.size ≤ q) (x_runVT (As := []) (rest := []) ⟨hx, hb, hml, hown, htb⟩ (c_Bd_refuseFullT l hlt0 hd1 hb2) (x_cV 0 htb mw_358 mw_1 mw_361 mw_360 ms_3 rfl rfl (by decide +kernel) ⟨Nat.le_of_ble_eq_true rfl, Nat.le_of_ble_eq_true rfl⟩) (x_preVT hK hN hT q1 rfl) rfl rfl hl.1 rfl (lv_room (Nat.le_of_ble_eq_true rfl)) d_Bd_write_44 ⟨Nat.le_of_ble_eq_true rfl, Nat.le_of_ble_eq_true rfl⟩) hL (fun q hq => by have hq : H1.size ≤ q := hq; omega) hout hlocks (fun H2 q => ⟨by omega, fun q2 hq2 => by rw [q.2 q2 (by omega), k1o q2 hq2]⟩)
  · refine lv_aload_n hx hb d_Bd_write_22 rfl (lv_at hl 1 rfl) ?_
    refine x_get (ci := 7) (T := T_Bd) hx hb htb u_Bd hown hK q1 rfl 1 (by decide) (htb _ mw_86) (fun _ h9 => h9) (v := .ref (z + 2)) rfl d_Bd_write_23 ?_
    refine lv_aload_n hx hb d_Bd_write_26 rfl (lv_at hl 0 rfl) ?_
    cases hg : g_get S.2.2.1 (x, y, S.2.1) with
    | none =>
      refine x_callP (va_runV (As := [.ref H0.size]) (rest := []) ⟨hx, hb, hml, hown, htb⟩ (c_Fi_findN l q4 q4s qn (g_get_no hg)) (x_cV 1 htb mw_154 mw_3 mw_157 mw_155 mw_156 rfl rfl (by decide +kernel) ⟨Nat.le_of_ble_eq_true rfl, Nat.le_of_ble_eq_true rfl⟩) (x_preV hK hN g1 rfl) rfl rfl hl.1 rfl (lv_room (Nat.le_of_ble_eq_true rfl)) d_Bd_write_27 ⟨Nat.le_of_ble_eq_true rfl, Nat.le_of_ble_eq_true rfl⟩) ?_
      refine W.eq (g2 := F0 m 30 ls [.null]) rfl ?_
      refine lv_ifnonnullN hx hb d_Bd_write_30 ?_
      refine va_forget (fun q hq => by rw [hH]; exact hL q hq) ?_
      exact x_thr hx hb hlt0 (by rw [hml]; exact hl.1.symm) hown (by decide) (by decide) (fun a ha => x_own htb hN hTs a (ow_90 a ha)) (htb _ mw_342) (htb _ mw_17) (htb _ mw_343) (hN.2 (88, "there are 60 files") (List.mem_of_getElem? (i := 2) rfl)) d_Bd_write_33 d_Bd_write_36 d_Bd_write_37 d_Bd_write_39 d_Bd_write_42 hout (Nat.le_of_ble_eq_true rfl) (Nat.le_of_ble_eq_true rfl) (Nat.le_of_ble_eq_true rfl) (Nat.le_of_ble_eq_true rfl) (by rw [hH, k1z]; omega) (fun t cell e1 e2 e3 e4 e5 => ⟨_, cell, rfl, e1, e2, e3, by rw [← hH]; exact ⟨e4, e5⟩⟩) hlocks
    | some f =>
      have hb2 : 200 ≤ S.2.2.2.2.2.1.length := hbad.resolve_right (fun e => by rw [e.2] at hg; cases hg)
      obtain ⟨j, hfi, hff⟩ := g_get_ex hg
      obtain ⟨fa, hfa⟩ := g_ex (as := as) (j := j) (by rw [q4s.1]; exact g_find_lt hfi)
      refine x_callP (va_runV (As := [.ref H0.size]) (rest := []) ⟨hx, hb, hml, hown, htb⟩ (c_Fi_find l q4 q4s qn hfi hfa) (x_cV 1 htb mw_154 mw_3 mw_157 mw_155 mw_156 rfl rfl (by decide +kernel) ⟨Nat.le_of_ble_eq_true rfl, Nat.le_of_ble_eq_true rfl⟩) (x_preV hK hN g1 rfl) rfl rfl hl.1 rfl (lv_room (Nat.le_of_ble_eq_true rfl)) d_Bd_write_27 ⟨Nat.le_of_ble_eq_true rfl, Nat.le_of_ble_eq_true rfl⟩) ?_
      refine W.eq (g2 := F0 m 30 ls [.ref fa]) rfl ?_
      refine lv_ifnonnull (tgt := 43) hx hb d_Bd_write_30 (by decide) ?_
      refine lv_aload_n hx hb d_Bd_write_43 rfl (lv_at hl 1 rfl) ?_
      exact x_leaveT (F := fun q : Nat => H0.size ≤ q) (x_runVT (As := []) (rest := []) ⟨hx, hb, hml, hown, htb⟩ (c_Bd_refuseFullT l hlt0 hd1 hb2) (x_cV 0 htb mw_358 mw_1 mw_361 mw_360 ms_3 rfl rfl (by decide +kernel) ⟨Nat.le_of_ble_eq_true rfl, Nat.le_of_ble_eq_true rfl⟩) (x_preVT hK hN hT q1 rfl) rfl rfl hl.1 rfl (lv_room (Nat.le_of_ble_eq_true rfl)) d_Bd_write_44 ⟨Nat.le_of_ble_eq_true rfl, Nat.le_of_ble_eq_true rfl⟩) hL (fun q hq => by have hq : H1.size ≤ q := hq; omega) hout hlocks (fun H2 q => ⟨by omega, fun q2 hq2 => by rw [q.2 q2 (by omega), k1o q2 hq2]⟩)
set_option maxHeartbeats 4000000 in
set_option maxRecDepth 100000 in
theorem c_Bd_delete (l : Launch) {D : va_G} {A : Nat → ClassId} {H0 : Heap} {a z : Nat} {S : g_S} (hd : g_D D A a z S H0) {x y : Int32} (hok : g_ok x y) {f : g_F} (hg : g_get S.2.2.1 (x, y, S.2.1) = some f) (hnm : f.1 = (x, y, S.2.1)) (hlt : S.2.2.2.2.2.1.length < 200) : Met l y_Bd_delete w_Bd_delete { frames := 6, cells := 2, slots := 5, locals := 132 } (x_Pc D A [.ref a, .int x, .int y] H0) (x_Q none (fun H1 => g_D D A a z (S.1, S.2.1, g_ap S.2.2.1 ((x, y, S.2.1), none), S.2.2.2.1, S.2.2.2.2.1, S.2.2.2.2.2.1 ++ [((x, y, S.2.1), none)], S.2.2.2.2.2.2 + 1) H1 ∧ g_K (g_M a z) H0 H1)) 2 5 (x_fr (g_Mx a z) H0) := by
  refine Met.ofW (cc := prog_1_method_6_code) (maxL := 4) (ret := none) (by decide) rfl ?_
  intro p e s m args below meth c s₁ B hml hv
  obtain ⟨rfl, hH, hK, hN⟩ := hv
  obtain ⟨hx, hb, hr, htb, hown, hlocks⟩ := x_start (wd := Cond.code y_Bd_delete prog_1_method_6_code 4 none) B
  have hl := lv_entry ([.ref a, .int x, .int y]) (n := 4) (Nat.le_of_ble_eq_true rfl)
  rw [lg_entry_eq]
  generalize (lg_sl ([.ref a, .int x, .int y]) ++ List.replicate (4 - (lg_sl ([.ref a, .int x, .int y])).length) Slot.unset).toArray = ls at hl ⊢
  have hl : lv_has ls 4 [(0, .ref a), (1, .int x), (2, .int y)] := hl
  rw [hH]
  obtain ⟨pa, as, bs, cs, ds, h1, h2, h3, ⟨h4, h4s⟩, ⟨h5, h5s⟩, ⟨h6, h6s⟩, ⟨h7, h7s⟩, h8, h9⟩ := id hd
  have hL : ∀ q ∈ ([] : List Loc), x_fr (g_Mx a z) H0 q.base := fun q hq => by cases hq
  refine lv_iload_n hx hb d_Bd_delete_0 rfl (lv_at hl 1 rfl) ?_
  refine lv_iload_n hx hb d_Bd_delete_1 rfl (lv_at hl 2 rfl) ?_
  refine x_callP (va_runS (As := [.int x, .int y]) (rest := []) ⟨hx, hb, hml, hown, htb⟩ (c_Bd_refuse l hok) (x_cS 2 htb mw_319 mw_1 mw_321 mw_320 rfl rfl (by decide +kernel) ⟨Nat.le_of_ble_eq_true rfl, Nat.le_of_ble_eq_true rfl⟩) (x_preS hK hN) rfl rfl hl.1 rfl (lv_room (Nat.le_of_ble_eq_true rfl)) d_Bd_delete_2 ⟨Nat.le_of_ble_eq_true rfl, Nat.le_of_ble_eq_true rfl⟩) ?_
  refine W.eq (g2 := F0 m 5 ls []) rfl ?_
  refine lv_aload_n hx hb d_Bd_delete_5 rfl (lv_at hl 0 rfl) ?_
  refine lv_iload_n hx hb d_Bd_delete_6 rfl (lv_at hl 1 rfl) ?_
  refine lv_iload_n hx hb d_Bd_delete_7 rfl (lv_at hl 2 rfl) ?_
  refine x_callr (F := x_fr (g_Mx a z) H0) (va_runV (As := [.int x, .int y]) (rest := []) ⟨hx, hb, hml, hown, htb⟩ (c_Bd_fileToChange l hd hg) (x_cV 2 htb mw_426 mw_1 mw_429 mw_428 ms_7 rfl rfl (by decide +kernel) ⟨Nat.le_of_ble_eq_true rfl, Nat.le_of_ble_eq_true rfl⟩) (x_preV hK hN h1 rfl) rfl rfl hl.1 rfl (lv_room (Nat.le_of_ble_eq_true rfl)) d_Bd_delete_8 ⟨Nat.le_of_ble_eq_true rfl, Nat.le_of_ble_eq_true rfl⟩) hL (fun q hq => Or.inr hq) (fun fa H1 locs hP hL => ?_)
  obtain ⟨f1, k1z, k1o⟩ := hP
  have hd1 := hd.ext k1z k1o
  have hk1 : g_K (g_M a z) H0 H1 := ⟨k1z, fun q hq _ => k1o q hq⟩
  have q1 := h1.kept (k1o a (by omega))
  obtain ⟨na, ca, f2, f3, f4, f5⟩ := id f1
  refine lv_astore_n (lv' := [(3, .ref fa), (0, .ref a), (1, .int x), (2, .int y)]) hx hb d_Bd_delete_11 rfl hl (by decide) rfl (fun ls hl => ?_)
  refine lv_aload_n hx hb d_Bd_delete_12 rfl (lv_at hl 1 rfl) ?_
  refine x_callP (va_runV (As := []) (rest := []) ⟨hx, hb, hml, hown, htb⟩ (c_Bd_refuseFull l hd1 hlt) (x_cV 0 htb mw_358 mw_1 mw_361 mw_360 ms_3 rfl rfl (by decide +kernel) ⟨Nat.le_of_ble_eq_true rfl, Nat.le_of_ble_eq_true rfl⟩) (x_preV hK hN q1 rfl) rfl rfl hl.1 rfl (lv_room (Nat.le_of_ble_eq_true rfl)) d_Bd_delete_13 ⟨Nat.le_of_ble_eq_true rfl, Nat.le_of_ble_eq_true rfl⟩) ?_
  refine W.eq (g2 := F0 m 16 ls []) rfl ?_
  refine lv_aload_n hx hb d_Bd_delete_16 rfl (lv_at hl 1 rfl) ?_
  refine x_new (ci := 3) (fs := [.null, .null]) (T := T_Op) (N := 2) hx hb htb u_Op t_Op t_Op_ok hown (htb _ mw_367) (htb _ mw_368) (htb _ mw_18) hK rfl df_Op (Nat.le_of_ble_eq_true rfl) (Nat.le_of_ble_eq_true rfl) d_Bd_delete_17 (fun H2 k2 k2z k2o => ?_)
  have f2 := f2.kept (k2o _ f2.lt)
  refine lv_dup hx hb d_Bd_delete_20 rfl ?_
  refine lv_aload_n hx hb d_Bd_delete_21 rfl (lv_at hl 0 rfl) ?_
  refine x_getN (ci := 2) (T := T_Sf) hx hb htb u_Sf hown hK f2 rfl 0 (by decide) (va_Nw.use rfl (hN.1 _ nf_377)) (fun _ h9 => h9) (v := .ref na) rfl d_Bd_delete_22 ?_
  refine lv_null hx hb d_Bd_delete_25 ?_
  refine x_call (F := x_fr (g_Mx a z) H0) (va_runI (As := [.ref na, .null]) (rest := [.ref H1.size, .ref a]) ⟨hx, hb, hml, hown, htb⟩ (c_Op_initN l k2) (x_cI 2 htb mw_385 mw_18 mw_387 mw_386 rfl rfl rfl (by decide +kernel) ⟨Nat.le_of_ble_eq_true rfl, Nat.le_of_ble_eq_true rfl⟩) (x_preS hK hN) rfl rfl hl.1 rfl (lv_room (Nat.le_of_ble_eq_true rfl)) d_Bd_delete_26 ⟨Nat.le_of_ble_eq_true rfl, Nat.le_of_ble_eq_true rfl⟩) hL (fun q hq => Or.inr (by rw [hq]; omega)) (fun H3 locs hP hL => ?_)
  refine W.eq (g2 := F0 m 29 ls [.ref H1.size, .ref a]) rfl ?_
  obtain ⟨k3, hb3⟩ := hP
  have hold1 : ∀ q : Nat, q < H1.size → H3[q]? = H1[q]? := fun q hq => by rw [hb3.2 q (by omega), k2o q hq]
  have hz3 : H1.size ≤ H3.size := by rw [hb3.1]; omega
  have hk13 : g_K (g_M a z) H1 H3 := ⟨hz3, fun q hq _ => hold1 q hq⟩
  have hd3 := hd1.ext hz3 hold1
  have hop : g_op D A (g_Mx a z) H1.size ((x, y, S.2.1), none) H3 := ⟨na, none, k3, hd.new _ k1z, hnm ▸ f4.kept hk13, trivial⟩
  obtain ⟨pa6, as6, bs6, cs6, ds6, s1, -⟩ := id hd3
  refine x_call (F := x_fr (g_Mx a z) H0) (va_runV (As := [.ref H1.size]) (rest := []) ⟨hx, hb, hml, hown, htb⟩ (c_Bd_perform l hd3 hop hlt) (x_cV 1 htb mw_398 mw_1 mw_401 mw_400 ms_4 rfl rfl (by decide +kernel) ⟨Nat.le_of_ble_eq_true rfl, Nat.le_of_ble_eq_true rfl⟩) (x_preV hK hN s1 rfl) rfl rfl hl.1 rfl (lv_room (Nat.le_of_ble_eq_true rfl)) d_Bd_delete_29 ⟨Nat.le_of_ble_eq_true rfl, Nat.le_of_ble_eq_true rfl⟩) hL (fun q hq => hq.elim Or.inl (fun e => Or.inr (by omega))) (fun H7 locs hP hL => ?_)
  refine W.eq (g2 := F0 m 32 ls []) rfl ?_
  obtain ⟨c1, c2, -⟩ := hP
  exact x_vret hx hb hr hlocks ⟨c1, (hk1.trans hk13).trans c2⟩ hL (Nat.le_refl _) (Nat.le_refl _) d_Bd_delete_32
set_option maxHeartbeats 4000000 in
set_option maxRecDepth 100000 in
theorem c_Bd_rename (l : Launch) {D : va_G} {A : Nat → ClassId} {H0 : Heap} {a z : Nat} {S : g_S} (hd : g_D D A a z S H0) {x y x2 y2 : Int32} (hok : g_ok x y) (hok2 : g_ok x2 y2) {f : g_F} (hg : g_get S.2.2.1 (x, y, S.2.1) = some f) (hnm : f.1 = (x, y, S.2.1)) (hlt : S.2.2.2.2.2.1.length < 200) : Met l y_Bd_rename w_Bd_rename { frames := 6, cells := 4, slots := 10, locals := 132 } (x_Pc D A [.ref a, .int x, .int y, .int x2, .int y2] H0) (x_Q none (fun H1 => g_D D A a z (S.1, S.2.1, g_ap S.2.2.1 ((x, y, S.2.1), some ((x2, y2, S.2.1), f.2)), S.2.2.2.1, S.2.2.2.2.1, S.2.2.2.2.2.1 ++ [((x, y, S.2.1), some ((x2, y2, S.2.1), f.2))], S.2.2.2.2.2.2 + 1) H1 ∧ g_K (g_M a z) H0 H1)) 4 10 (x_fr (g_Mx a z) H0) := by
  refine Met.ofW (cc := prog_1_method_5_code) (maxL := 6) (ret := none) (by decide) rfl ?_
  intro p e s m args below meth c s₁ B hml hv
  obtain ⟨rfl, hH, hK, hN⟩ := hv
  obtain ⟨hx, hb, hr, htb, hown, hlocks⟩ := x_start (wd := Cond.code y_Bd_rename prog_1_method_5_code 6 none) B
  have hl := lv_entry ([.ref a, .int x, .int y, .int x2, .int y2]) (n := 6) (Nat.le_of_ble_eq_true rfl)
  rw [lg_entry_eq]
  generalize (lg_sl ([.ref a, .int x, .int y, .int x2, .int y2]) ++ List.replicate (6 - (lg_sl ([.ref a, .int x, .int y, .int x2, .int y2])).length) Slot.unset).toArray = ls at hl ⊢
  have hl : lv_has ls 6 [(0, .ref a), (1, .int x), (2, .int y), (3, .int x2), (4, .int y2)] := hl
  rw [hH]
  obtain ⟨pa, as, bs, cs, ds, h1, h2, h3, ⟨h4, h4s⟩, ⟨h5, h5s⟩, ⟨h6, h6s⟩, ⟨h7, h7s⟩, h8, h9⟩ := id hd
  have hL : ∀ q ∈ ([] : List Loc), x_fr (g_Mx a z) H0 q.base := fun q hq => by cases hq
  refine lv_iload_n hx hb d_Bd_rename_0 rfl (lv_at hl 1 rfl) ?_
  refine lv_iload_n hx hb d_Bd_rename_1 rfl (lv_at hl 2 rfl) ?_
  refine x_callP (va_runS (As := [.int x, .int y]) (rest := []) ⟨hx, hb, hml, hown, htb⟩ (c_Bd_refuse l hok) (x_cS 2 htb mw_319 mw_1 mw_321 mw_320 rfl rfl (by decide +kernel) ⟨Nat.le_of_ble_eq_true rfl, Nat.le_of_ble_eq_true rfl⟩) (x_preS hK hN) rfl rfl hl.1 rfl (lv_room (Nat.le_of_ble_eq_true rfl)) d_Bd_rename_2 ⟨Nat.le_of_ble_eq_true rfl, Nat.le_of_ble_eq_true rfl⟩) ?_
  refine W.eq (g2 := F0 m 5 ls []) rfl ?_
  refine lv_iload_n hx hb d_Bd_rename_5 rfl (lv_at hl 3 rfl) ?_
  refine lv_iload hx hb d_Bd_rename_6 (lv_at hl 4 rfl) ?_
  refine x_callP (va_runS (As := [.int x2, .int y2]) (rest := []) ⟨hx, hb, hml, hown, htb⟩ (c_Bd_refuse l hok2) (x_cS 2 htb mw_319 mw_1 mw_321 mw_320 rfl rfl (by decide +kernel) ⟨Nat.le_of_ble_eq_true rfl, Nat.le_of_ble_eq_true rfl⟩) (x_preS hK hN) rfl rfl hl.1 rfl (lv_room (Nat.le_of_ble_eq_true rfl)) d_Bd_rename_8 ⟨Nat.le_of_ble_eq_true rfl, Nat.le_of_ble_eq_true rfl⟩) ?_
  refine W.eq (g2 := F0 m 11 ls []) rfl ?_
  refine lv_aload_n hx hb d_Bd_rename_11 rfl (lv_at hl 0 rfl) ?_
  refine lv_iload_n hx hb d_Bd_rename_12 rfl (lv_at hl 1 rfl) ?_
  refine lv_iload_n hx hb d_Bd_rename_13 rfl (lv_at hl 2 rfl) ?_
  refine x_callr (F := x_fr (g_Mx a z) H0) (va_runV (As := [.int x, .int y]) (rest := []) ⟨hx, hb, hml, hown, htb⟩ (c_Bd_fileToChange l hd hg) (x_cV 2 htb mw_426 mw_1 mw_429 mw_428 ms_7 rfl rfl (by decide +kernel) ⟨Nat.le_of_ble_eq_true rfl, Nat.le_of_ble_eq_true rfl⟩) (x_preV hK hN h1 rfl) rfl rfl hl.1 rfl (lv_room (Nat.le_of_ble_eq_true rfl)) d_Bd_rename_14 ⟨Nat.le_of_ble_eq_true rfl, Nat.le_of_ble_eq_true rfl⟩) hL (fun q hq => Or.inr hq) (fun fa H1 locs hP hL => ?_)
  obtain ⟨f1, k1z, k1o⟩ := hP
  have hd1 := hd.ext k1z k1o
  have hk1 : g_K (g_M a z) H0 H1 := ⟨k1z, fun q hq _ => k1o q hq⟩
  have q1 := h1.kept (k1o a (by omega))
  obtain ⟨na, ca, f2, f3, f4, f5⟩ := id f1
  refine lv_astore (lv' := [(5, .ref fa), (0, .ref a), (1, .int x), (2, .int y), (3, .int x2), (4, .int y2)]) hx hb d_Bd_rename_17 hl (by decide) rfl (fun ls hl => ?_)
  refine lv_aload_n hx hb d_Bd_rename_19 rfl (lv_at hl 1 rfl) ?_
  refine x_callP (va_runV (As := []) (rest := []) ⟨hx, hb, hml, hown, htb⟩ (c_Bd_refuseFull l hd1 hlt) (x_cV 0 htb mw_358 mw_1 mw_361 mw_360 ms_3 rfl rfl (by decide +kernel) ⟨Nat.le_of_ble_eq_true rfl, Nat.le_of_ble_eq_true rfl⟩) (x_preV hK hN q1 rfl) rfl rfl hl.1 rfl (lv_room (Nat.le_of_ble_eq_true rfl)) d_Bd_rename_20 ⟨Nat.le_of_ble_eq_true rfl, Nat.le_of_ble_eq_true rfl⟩) ?_
  refine W.eq (g2 := F0 m 23 ls []) rfl ?_
  refine lv_aload_n hx hb d_Bd_rename_23 rfl (lv_at hl 1 rfl) ?_
  refine x_new (ci := 3) (fs := [.null, .null]) (T := T_Op) (N := 2) hx hb htb u_Op t_Op t_Op_ok hown (htb _ mw_367) (htb _ mw_368) (htb _ mw_18) hK rfl df_Op (Nat.le_of_ble_eq_true rfl) (Nat.le_of_ble_eq_true rfl) d_Bd_rename_24 (fun H2 k2 k2z k2o => ?_)
  have f2 := f2.kept (k2o _ f2.lt)
  refine lv_dup hx hb d_Bd_rename_27 rfl ?_
  refine lv_aload hx hb d_Bd_rename_28 (lv_at hl 0 rfl) ?_
  refine x_getN (ci := 2) (T := T_Sf) hx hb htb u_Sf hown hK f2 rfl 0 (by decide) (va_Nw.use rfl (hN.1 _ nf_377)) (fun _ h9 => h9) (v := .ref na) rfl d_Bd_rename_30 ?_
  refine x_new (ci := 2) (fs := [.null, .null]) (T := T_Sf) (N := 2) hx hb htb u_Sf t_Sf t_Sf_ok hown (htb _ mw_369) (htb _ mw_370) (htb _ mw_19) hK rfl df_Sf (Nat.le_of_ble_eq_true rfl) (Nat.le_of_ble_eq_true rfl) d_Bd_rename_33 (fun H3 k3 k3z k3o => ?_)
  have f2 := f2.kept (k3o _ f2.lt)
  have q1 := (q1.kept (k2o _ (by omega))).kept (k3o _ (by omega))
  refine lv_dup hx hb d_Bd_rename_36 rfl ?_
  refine lv_aload_n hx hb d_Bd_rename_37 rfl (lv_at hl 1 rfl) ?_
  refine lv_iload_n hx hb d_Bd_rename_38 rfl (lv_at hl 4 rfl) ?_
  refine lv_iload hx hb d_Bd_rename_39 (lv_at hl 5 rfl) ?_
  refine x_call (F := x_fr (g_Mx a z) H0) (va_runV (As := [.int x2, .int y2]) (rest := [.ref H2.size, .ref H2.size, .ref na, .ref H1.size, .ref H1.size, .ref a]) ⟨hx, hb, hml, hown, htb⟩ (c_Bd_name2 l q1 x2 y2) (x_cV 2 htb mw_131 mw_1 mw_134 mw_133 ms_0 rfl rfl (by decide +kernel) ⟨Nat.le_of_ble_eq_true rfl, Nat.le_of_ble_eq_true rfl⟩) (x_preV hK hN q1 rfl) rfl rfl hl.1 rfl (lv_room (Nat.le_of_ble_eq_true rfl)) d_Bd_rename_41 ⟨Nat.le_of_ble_eq_true rfl, Nat.le_of_ble_eq_true rfl⟩) hL (fun q hq => Or.inr (by have hq : H3.size ≤ q := hq; omega)) (fun H4 locs hP hL => ?_)
  refine W.eq (g2 := F0 m 44 ls [.ref H3.size, .ref H2.size, .ref H2.size, .ref na, .ref H1.size, .ref H1.size, .ref a]) rfl ?_
  obtain ⟨k4, k4z, k4o⟩ := hP
  have f2 := f2.kept (k4o _ f2.lt)
  have k3 := k3.kept (k4o _ (by omega))
  have k2 := (k2.kept (k3o _ (by omega))).kept (k4o _ (by omega))
  refine lv_aload hx hb d_Bd_rename_44 (lv_at hl 0 rfl) ?_
  refine x_getN (ci := 2) (T := T_Sf) hx hb htb u_Sf hown hK f2 rfl 1 (by decide) (va_Nw.use rfl (hN.1 _ nf_379)) (fun _ h9 => h9) (v := .ref ca) rfl d_Bd_rename_46 ?_
  refine x_call (F := x_fr (g_Mx a z) H0) (va_runI (As := [.ref H3.size, .ref ca]) (rest := [.ref H2.size, .ref na, .ref H1.size, .ref H1.size, .ref a]) ⟨hx, hb, hml, hown, htb⟩ (c_Sf_init l k3) (x_cI 2 htb mw_371 mw_19 mw_373 mw_372 rfl rfl rfl (by decide +kernel) ⟨Nat.le_of_ble_eq_true rfl, Nat.le_of_ble_eq_true rfl⟩) (x_preS hK hN) rfl rfl hl.1 rfl (lv_room (Nat.le_of_ble_eq_true rfl)) d_Bd_rename_49 ⟨Nat.le_of_ble_eq_true rfl, Nat.le_of_ble_eq_true rfl⟩) hL (fun q hq => Or.inr (by rw [hq]; omega)) (fun H5 locs hP hL => ?_)
  refine W.eq (g2 := F0 m 52 ls [.ref H2.size, .ref na, .ref H1.size, .ref H1.size, .ref a]) rfl ?_
  obtain ⟨k5, hb5⟩ := hP
  have k2 := hb5.at k2 (by omega)
  refine x_call (F := x_fr (g_Mx a z) H0) (va_runI (As := [.ref na, .ref H2.size]) (rest := [.ref H1.size, .ref a]) ⟨hx, hb, hml, hown, htb⟩ (c_Op_init l k2) (x_cI 2 htb mw_385 mw_18 mw_387 mw_386 rfl rfl rfl (by decide +kernel) ⟨Nat.le_of_ble_eq_true rfl, Nat.le_of_ble_eq_true rfl⟩) (x_preS hK hN) rfl rfl hl.1 rfl (lv_room (Nat.le_of_ble_eq_true rfl)) d_Bd_rename_52 ⟨Nat.le_of_ble_eq_true rfl, Nat.le_of_ble_eq_true rfl⟩) hL (fun q hq => Or.inr (by rw [hq]; omega)) (fun H6 locs hP hL => ?_)
  refine W.eq (g2 := F0 m 55 ls [.ref H1.size, .ref a]) rfl ?_
  obtain ⟨k6, hb6⟩ := hP
  have hz6 : H6.size = H4.size := by rw [hb6.1, hb5.1]
  have hold1 : ∀ q : Nat, q < H1.size → H6[q]? = H1[q]? := fun q hq => by rw [hb6.2 q (by omega), hb5.2 q (by omega), k4o q (by omega), k3o q (by omega), k2o q hq]
  have hz3 : H1.size ≤ H6.size := by omega
  have hk16 : g_K (g_M a z) H1 H6 := ⟨hz3, fun q hq _ => hold1 q hq⟩
  have hd6 := hd1.ext hz3 hold1
  have k4 := hb6.at (hb5.at k4 (by omega)) (by omega)
  have hsf : g_sf D A (g_Mx a z) H2.size ((x2, y2, S.2.1), f.2) H6 := ⟨H3.size, ca, hb6.at k5 (by omega), hd.new _ (by omega), ⟨pa, k4, hd.new _ (by omega), h3.kept (hk1.trans hk16)⟩, f5.kept hk16⟩
  have hop : g_op D A (g_Mx a z) H1.size ((x, y, S.2.1), some ((x2, y2, S.2.1), f.2)) H6 := ⟨na, some H2.size, k6, hd.new _ k1z, hnm ▸ f4.kept hk16, hsf⟩
  obtain ⟨pa6, as6, bs6, cs6, ds6, s1, -⟩ := id hd6
  refine x_call (F := x_fr (g_Mx a z) H0) (va_runV (As := [.ref H1.size]) (rest := []) ⟨hx, hb, hml, hown, htb⟩ (c_Bd_perform l hd6 hop hlt) (x_cV 1 htb mw_398 mw_1 mw_401 mw_400 ms_4 rfl rfl (by decide +kernel) ⟨Nat.le_of_ble_eq_true rfl, Nat.le_of_ble_eq_true rfl⟩) (x_preV hK hN s1 rfl) rfl rfl hl.1 rfl (lv_room (Nat.le_of_ble_eq_true rfl)) d_Bd_rename_55 ⟨Nat.le_of_ble_eq_true rfl, Nat.le_of_ble_eq_true rfl⟩) hL (fun q hq => hq.elim Or.inl (fun e => Or.inr (by omega))) (fun H7 locs hP hL => ?_)
  refine W.eq (g2 := F0 m 58 ls []) rfl ?_
  obtain ⟨c1, c2, -⟩ := hP
  exact x_vret hx hb hr hlocks ⟨c1, (hk1.trans hk16).trans c2⟩ hL (Nat.le_refl _) (Nat.le_refl _) d_Bd_rename_58
set_option maxHeartbeats 4000000 in
set_option maxRecDepth 100000 in
theorem c_Bd_deleteT1 (l : Launch) (hlt0 : l.stackTraces = false) {D : va_G} {A : Nat → ClassId} {H0 : Heap} {a z : Nat} {S : g_S} (hd : g_D D A a z S H0) {x y : Int32} (hok : ¬ g_ok x y) : x_MetT l y_Bd_delete w_Bd_delete { frames := 7, cells := 1, slots := 6, locals := 111 } (x_PcT D A (g_Mx a z) [.ref a, .int x, .int y] H0) (x_QT "java/lang/IndexOutOfBoundsException" (fun H1 => H0.size ≤ H1.size ∧ ∀ q : Nat, q < H0.size → H1[q]? = H0[q]?)) 1 6 (fun q => H0.size ≤ q) := by
  refine x_ofWT (cc := prog_1_method_6_code) (maxL := 4) (ret := none) (by decide) rfl ?_
  intro p e s m args below meth c s₁ B hml hv
  obtain ⟨rfl, hH, hK, hN, hT⟩ := hv
  obtain ⟨hx, hb, hr, htb, hown, hlocks⟩ := x_start (wd := Cond.code y_Bd_delete prog_1_method_6_code 4 none) B
  have hout := x_nohand B
  have hTs : x_T (g_Mx a z) s s.heap := by rw [hH]; exact hT
  have hl := lv_entry ([.ref a, .int x, .int y]) (n := 4) (Nat.le_of_ble_eq_true rfl)
  rw [lg_entry_eq]
  generalize (lg_sl ([.ref a, .int x, .int y]) ++ List.replicate (4 - (lg_sl ([.ref a, .int x, .int y])).length) Slot.unset).toArray = ls at hl ⊢
  have hl : lv_has ls 4 [(0, .ref a), (1, .int x), (2, .int y)] := hl
  rw [hH]
  have hL : ∀ q ∈ ([] : List Loc), (fun q : Nat => H0.size ≤ q) q.base := fun q hq => by cases hq
  refine lv_iload_n hx hb d_Bd_delete_0 rfl (lv_at hl 1 rfl) ?_
  refine lv_iload_n hx hb d_Bd_delete_1 rfl (lv_at hl 2 rfl) ?_
  exact x_leaveT (F := fun q : Nat => H0.size ≤ q) (x_runST (As := [.int x, .int y]) (rest := []) ⟨hx, hb, hml, hown, htb⟩ (c_Bd_refuseT l hlt0 hok) (x_cS 2 htb mw_319 mw_1 mw_321 mw_320 rfl rfl (by decide +kernel) ⟨Nat.le_of_ble_eq_true rfl, Nat.le_of_ble_eq_true rfl⟩) (x_preST hK hN hT) rfl rfl hl.1 rfl (lv_room (Nat.le_of_ble_eq_true rfl)) d_Bd_delete_2 ⟨Nat.le_of_ble_eq_true rfl, Nat.le_of_ble_eq_true rfl⟩) hL (fun q hq => hq) hout hlocks (fun H1 q => q)
set_option maxHeartbeats 4000000 in
set_option maxRecDepth 100000 in
theorem c_Bd_deleteT2 (l : Launch) (hlt0 : l.stackTraces = false) {D : va_G} {A : Nat → ClassId} {H0 : Heap} {a z : Nat} {S : g_S} (hd : g_D D A a z S H0) {x y : Int32} (hok : g_ok x y) (hg : g_get S.2.2.1 (x, y, S.2.1) = none) : x_MetT l y_Bd_delete w_Bd_delete { frames := 7, cells := 2, slots := 9, locals := 113 } (x_PcT D A (g_Mx a z) [.ref a, .int x, .int y] H0) (x_QT "java/lang/IllegalArgumentException" (fun H1 => H0.size ≤ H1.size ∧ ∀ q : Nat, q < H0.size → H1[q]? = H0[q]?)) 2 9 (fun q => H0.size ≤ q) := by
  refine x_ofWT (cc := prog_1_method_6_code) (maxL := 4) (ret := none) (by decide) rfl ?_
  intro p e s m args below meth c s₁ B hml hv
  obtain ⟨rfl, hH, hK, hN, hT⟩ := hv
  obtain ⟨hx, hb, hr, htb, hown, hlocks⟩ := x_start (wd := Cond.code y_Bd_delete prog_1_method_6_code 4 none) B
  have hout := x_nohand B
  have hTs : x_T (g_Mx a z) s s.heap := by rw [hH]; exact hT
  have hl := lv_entry ([.ref a, .int x, .int y]) (n := 4) (Nat.le_of_ble_eq_true rfl)
  rw [lg_entry_eq]
  generalize (lg_sl ([.ref a, .int x, .int y]) ++ List.replicate (4 - (lg_sl ([.ref a, .int x, .int y])).length) Slot.unset).toArray = ls at hl ⊢
  have hl : lv_has ls 4 [(0, .ref a), (1, .int x), (2, .int y)] := hl
  rw [hH]
  have hL : ∀ q ∈ ([] : List Loc), (fun q : Nat => H0.size ≤ q) q.base := fun q hq => by cases hq
  obtain ⟨pa, as, bs, cs, ds, h1, h2, h3, ⟨h4, h4s⟩, ⟨h5, h5s⟩, ⟨h6, h6s⟩, ⟨h7, h7s⟩, h8, h9⟩ := id hd
  refine lv_iload_n hx hb d_Bd_delete_0 rfl (lv_at hl 1 rfl) ?_
  refine lv_iload_n hx hb d_Bd_delete_1 rfl (lv_at hl 2 rfl) ?_
  refine x_callP (va_runS (As := [.int x, .int y]) (rest := []) ⟨hx, hb, hml, hown, htb⟩ (c_Bd_refuse l hok) (x_cS 2 htb mw_319 mw_1 mw_321 mw_320 rfl rfl (by decide +kernel) ⟨Nat.le_of_ble_eq_true rfl, Nat.le_of_ble_eq_true rfl⟩) (x_preS hK hN) rfl rfl hl.1 rfl (lv_room (Nat.le_of_ble_eq_true rfl)) d_Bd_delete_2 ⟨Nat.le_of_ble_eq_true rfl, Nat.le_of_ble_eq_true rfl⟩) ?_
  refine W.eq (g2 := F0 m 5 ls []) rfl ?_
  refine lv_aload_n hx hb d_Bd_delete_5 rfl (lv_at hl 0 rfl) ?_
  refine lv_iload_n hx hb d_Bd_delete_6 rfl (lv_at hl 1 rfl) ?_
  refine lv_iload_n hx hb d_Bd_delete_7 rfl (lv_at hl 2 rfl) ?_
  exact x_leaveT (F := fun q : Nat => H0.size ≤ q) (x_runVT (As := [.int x, .int y]) (rest := []) ⟨hx, hb, hml, hown, htb⟩ (c_Bd_fileToChangeT l hlt0 hd hg) (x_cV 2 htb mw_426 mw_1 mw_429 mw_428 ms_7 rfl rfl (by decide +kernel) ⟨Nat.le_of_ble_eq_true rfl, Nat.le_of_ble_eq_true rfl⟩) (x_preVT hK hN hT h1 rfl) rfl rfl hl.1 rfl (lv_room (Nat.le_of_ble_eq_true rfl)) d_Bd_delete_8 ⟨Nat.le_of_ble_eq_true rfl, Nat.le_of_ble_eq_true rfl⟩) hL (fun q hq => hq) hout hlocks (fun H1 q => q)
set_option maxHeartbeats 4000000 in
set_option maxRecDepth 100000 in
theorem c_Bd_deleteT3 (l : Launch) (hlt0 : l.stackTraces = false) {D : va_G} {A : Nat → ClassId} {H0 : Heap} {a z : Nat} {S : g_S} (hd : g_D D A a z S H0) {x y : Int32} (hok : g_ok x y) {f : g_F} (hg : g_get S.2.2.1 (x, y, S.2.1) = some f) (hge : 200 ≤ S.2.2.2.2.2.1.length) : x_MetT l y_Bd_delete w_Bd_delete { frames := 7, cells := 2, slots := 9, locals := 111 } (x_PcT D A (g_Mx a z) [.ref a, .int x, .int y] H0) (x_QT "java/lang/IllegalStateException" (fun H1 => H0.size ≤ H1.size ∧ ∀ q : Nat, q < H0.size → H1[q]? = H0[q]?)) 2 9 (fun q => H0.size ≤ q) := by
  refine x_ofWT (cc := prog_1_method_6_code) (maxL := 4) (ret := none) (by decide) rfl ?_
  intro p e s m args below meth c s₁ B hml hv
  obtain ⟨rfl, hH, hK, hN, hT⟩ := hv
  obtain ⟨hx, hb, hr, htb, hown, hlocks⟩ := x_start (wd := Cond.code y_Bd_delete prog_1_method_6_code 4 none) B
  have hout := x_nohand B
  have hTs : x_T (g_Mx a z) s s.heap := by rw [hH]; exact hT
  have hl := lv_entry ([.ref a, .int x, .int y]) (n := 4) (Nat.le_of_ble_eq_true rfl)
  rw [lg_entry_eq]
  generalize (lg_sl ([.ref a, .int x, .int y]) ++ List.replicate (4 - (lg_sl ([.ref a, .int x, .int y])).length) Slot.unset).toArray = ls at hl ⊢
  have hl : lv_has ls 4 [(0, .ref a), (1, .int x), (2, .int y)] := hl
  rw [hH]
  have hL : ∀ q ∈ ([] : List Loc), (fun q : Nat => H0.size ≤ q) q.base := fun q hq => by cases hq
  obtain ⟨pa, as, bs, cs, ds, h1, h2, h3, ⟨h4, h4s⟩, ⟨h5, h5s⟩, ⟨h6, h6s⟩, ⟨h7, h7s⟩, h8, h9⟩ := id hd
  refine lv_iload_n hx hb d_Bd_delete_0 rfl (lv_at hl 1 rfl) ?_
  refine lv_iload_n hx hb d_Bd_delete_1 rfl (lv_at hl 2 rfl) ?_
  refine x_callP (va_runS (As := [.int x, .int y]) (rest := []) ⟨hx, hb, hml, hown, htb⟩ (c_Bd_refuse l hok) (x_cS 2 htb mw_319 mw_1 mw_321 mw_320 rfl rfl (by decide +kernel) ⟨Nat.le_of_ble_eq_true rfl, Nat.le_of_ble_eq_true rfl⟩) (x_preS hK hN) rfl rfl hl.1 rfl (lv_room (Nat.le_of_ble_eq_true rfl)) d_Bd_delete_2 ⟨Nat.le_of_ble_eq_true rfl, Nat.le_of_ble_eq_true rfl⟩) ?_
  refine W.eq (g2 := F0 m 5 ls []) rfl ?_
  refine lv_aload_n hx hb d_Bd_delete_5 rfl (lv_at hl 0 rfl) ?_
  refine lv_iload_n hx hb d_Bd_delete_6 rfl (lv_at hl 1 rfl) ?_
  refine lv_iload_n hx hb d_Bd_delete_7 rfl (lv_at hl 2 rfl) ?_
  refine x_callr (F := fun q : Nat => H0.size ≤ q) (va_runV (As := [.int x, .int y]) (rest := []) ⟨hx, hb, hml, hown, htb⟩ (c_Bd_fileToChange l hd hg) (x_cV 2 htb mw_426 mw_1 mw_429 mw_428 ms_7 rfl rfl (by decide +kernel) ⟨Nat.le_of_ble_eq_true rfl, Nat.le_of_ble_eq_true rfl⟩) (x_preV hK hN h1 rfl) rfl rfl hl.1 rfl (lv_room (Nat.le_of_ble_eq_true rfl)) d_Bd_delete_8 ⟨Nat.le_of_ble_eq_true rfl, Nat.le_of_ble_eq_true rfl⟩) hL (fun q hq => hq) (fun fa H1 locs hP hL => ?_)
  obtain ⟨f1, k1z, k1o⟩ := hP
  have hd1 := hd.ext k1z k1o
  have hk1 : g_K (g_M a z) H0 H1 := ⟨k1z, fun q hq _ => k1o q hq⟩
  have q1 := h1.kept (k1o a (by omega))
  obtain ⟨na, ca, f2, f3, f4, f5⟩ := id f1
  have hT := hT.kept hk1
  refine lv_astore_n (lv' := [(3, .ref fa), (0, .ref a), (1, .int x), (2, .int y)]) hx hb d_Bd_delete_11 rfl hl (by decide) rfl (fun ls hl => ?_)
  refine lv_aload_n hx hb d_Bd_delete_12 rfl (lv_at hl 1 rfl) ?_
  exact x_leaveT (F := fun q : Nat => H0.size ≤ q) (x_runVT (As := []) (rest := []) ⟨hx, hb, hml, hown, htb⟩ (c_Bd_refuseFullT l hlt0 hd1 hge) (x_cV 0 htb mw_358 mw_1 mw_361 mw_360 ms_3 rfl rfl (by decide +kernel) ⟨Nat.le_of_ble_eq_true rfl, Nat.le_of_ble_eq_true rfl⟩) (x_preVT hK hN hT q1 rfl) rfl rfl hl.1 rfl (lv_room (Nat.le_of_ble_eq_true rfl)) d_Bd_delete_13 ⟨Nat.le_of_ble_eq_true rfl, Nat.le_of_ble_eq_true rfl⟩) hL (fun q hq => by have hq : H1.size ≤ q := hq; omega) hout hlocks (fun H2 q => ⟨by omega, fun q2 hq2 => by rw [q.2 q2 (by omega), k1o q2 hq2]⟩)
set_option maxHeartbeats 4000000 in
set_option maxRecDepth 100000 in
theorem c_Bd_renameT1 (l : Launch) (hlt0 : l.stackTraces = false) {D : va_G} {A : Nat → ClassId} {H0 : Heap} {a z : Nat} {S : g_S} (hd : g_D D A a z S H0) {x y x2 y2 : Int32} (hok : ¬ (g_ok x y ∧ g_ok x2 y2)) : x_MetT l y_Bd_rename w_Bd_rename { frames := 7, cells := 1, slots := 6, locals := 111 } (x_PcT D A (g_Mx a z) [.ref a, .int x, .int y, .int x2, .int y2] H0) (x_QT "java/lang/IndexOutOfBoundsException" (fun H1 => H0.size ≤ H1.size ∧ ∀ q : Nat, q < H0.size → H1[q]? = H0[q]?)) 1 6 (fun q => H0.size ≤ q) := by
  refine x_ofWT (cc := prog_1_method_5_code) (maxL := 6) (ret := none) (by decide) rfl ?_
  intro p e s m args below meth c s₁ B hml hv
  obtain ⟨rfl, hH, hK, hN, hT⟩ := hv
  obtain ⟨hx, hb, hr, htb, hown, hlocks⟩ := x_start (wd := Cond.code y_Bd_rename prog_1_method_5_code 6 none) B
  have hout := x_nohand B
  have hTs : x_T (g_Mx a z) s s.heap := by rw [hH]; exact hT
  have hl := lv_entry ([.ref a, .int x, .int y, .int x2, .int y2]) (n := 6) (Nat.le_of_ble_eq_true rfl)
  rw [lg_entry_eq]
  generalize (lg_sl ([.ref a, .int x, .int y, .int x2, .int y2]) ++ List.replicate (6 - (lg_sl ([.ref a, .int x, .int y, .int x2, .int y2])).length) Slot.unset).toArray = ls at hl ⊢
  have hl : lv_has ls 6 [(0, .ref a), (1, .int x), (2, .int y), (3, .int x2), (4, .int y2)] := hl
  rw [hH]
  have hL : ∀ q ∈ ([] : List Loc), (fun q : Nat => H0.size ≤ q) q.base := fun q hq => by cases hq
  refine lv_iload_n hx hb d_Bd_rename_0 rfl (lv_at hl 1 rfl) ?_
  refine lv_iload_n hx hb d_Bd_rename_1 rfl (lv_at hl 2 rfl) ?_
  by_cases h1 : g_ok x y
  · refine x_callP (va_runS (As := [.int x, .int y]) (rest := []) ⟨hx, hb, hml, hown, htb⟩ (c_Bd_refuse l h1) (x_cS 2 htb mw_319 mw_1 mw_321 mw_320 rfl rfl (by decide +kernel) ⟨Nat.le_of_ble_eq_true rfl, Nat.le_of_ble_eq_true rfl⟩) (x_preS hK hN) rfl rfl hl.1 rfl (lv_room (Nat.le_of_ble_eq_true rfl)) d_Bd_rename_2 ⟨Nat.le_of_ble_eq_true rfl, Nat.le_of_ble_eq_true rfl⟩) ?_
    refine W.eq (g2 := F0 m 5 ls []) rfl ?_
    refine lv_iload_n hx hb d_Bd_rename_5 rfl (lv_at hl 3 rfl) ?_
    refine lv_iload hx hb d_Bd_rename_6 (lv_at hl 4 rfl) ?_
    exact x_leaveT (F := fun q : Nat => H0.size ≤ q) (x_runST (As := [.int x2, .int y2]) (rest := []) ⟨hx, hb, hml, hown, htb⟩ (c_Bd_refuseT l hlt0 (fun w => hok ⟨h1, w⟩)) (x_cS 2 htb mw_319 mw_1 mw_321 mw_320 rfl rfl (by decide +kernel) ⟨Nat.le_of_ble_eq_true rfl, Nat.le_of_ble_eq_true rfl⟩) (x_preST hK hN hT) rfl rfl hl.1 rfl (lv_room (Nat.le_of_ble_eq_true rfl)) d_Bd_rename_8 ⟨Nat.le_of_ble_eq_true rfl, Nat.le_of_ble_eq_true rfl⟩) hL (fun q hq => hq) hout hlocks (fun H1 q => q)
  · exact x_leaveT (F := fun q : Nat => H0.size ≤ q) (x_runST (As := [.int x, .int y]) (rest := []) ⟨hx, hb, hml, hown, htb⟩ (c_Bd_refuseT l hlt0 h1) (x_cS 2 htb mw_319 mw_1 mw_321 mw_320 rfl rfl (by decide +kernel) ⟨Nat.le_of_ble_eq_true rfl, Nat.le_of_ble_eq_true rfl⟩) (x_preST hK hN hT) rfl rfl hl.1 rfl (lv_room (Nat.le_of_ble_eq_true rfl)) d_Bd_rename_2 ⟨Nat.le_of_ble_eq_true rfl, Nat.le_of_ble_eq_true rfl⟩) hL (fun q hq => hq) hout hlocks (fun H1 q => q)
set_option maxHeartbeats 4000000 in
set_option maxRecDepth 100000 in
theorem c_Bd_renameT2 (l : Launch) (hlt0 : l.stackTraces = false) {D : va_G} {A : Nat → ClassId} {H0 : Heap} {a z : Nat} {S : g_S} (hd : g_D D A a z S H0) {x y x2 y2 : Int32} (hok : g_ok x y) (hok2 : g_ok x2 y2) (hg : g_get S.2.2.1 (x, y, S.2.1) = none) : x_MetT l y_Bd_rename w_Bd_rename { frames := 7, cells := 2, slots := 9, locals := 113 } (x_PcT D A (g_Mx a z) [.ref a, .int x, .int y, .int x2, .int y2] H0) (x_QT "java/lang/IllegalArgumentException" (fun H1 => H0.size ≤ H1.size ∧ ∀ q : Nat, q < H0.size → H1[q]? = H0[q]?)) 2 9 (fun q => H0.size ≤ q) := by
  refine x_ofWT (cc := prog_1_method_5_code) (maxL := 6) (ret := none) (by decide) rfl ?_
  intro p e s m args below meth c s₁ B hml hv
  obtain ⟨rfl, hH, hK, hN, hT⟩ := hv
  obtain ⟨hx, hb, hr, htb, hown, hlocks⟩ := x_start (wd := Cond.code y_Bd_rename prog_1_method_5_code 6 none) B
  have hout := x_nohand B
  have hTs : x_T (g_Mx a z) s s.heap := by rw [hH]; exact hT
  have hl := lv_entry ([.ref a, .int x, .int y, .int x2, .int y2]) (n := 6) (Nat.le_of_ble_eq_true rfl)
  rw [lg_entry_eq]
  generalize (lg_sl ([.ref a, .int x, .int y, .int x2, .int y2]) ++ List.replicate (6 - (lg_sl ([.ref a, .int x, .int y, .int x2, .int y2])).length) Slot.unset).toArray = ls at hl ⊢
  have hl : lv_has ls 6 [(0, .ref a), (1, .int x), (2, .int y), (3, .int x2), (4, .int y2)] := hl
  rw [hH]
  have hL : ∀ q ∈ ([] : List Loc), (fun q : Nat => H0.size ≤ q) q.base := fun q hq => by cases hq
  obtain ⟨pa, as, bs, cs, ds, h1, h2, h3, ⟨h4, h4s⟩, ⟨h5, h5s⟩, ⟨h6, h6s⟩, ⟨h7, h7s⟩, h8, h9⟩ := id hd
  refine lv_iload_n hx hb d_Bd_rename_0 rfl (lv_at hl 1 rfl) ?_
  refine lv_iload_n hx hb d_Bd_rename_1 rfl (lv_at hl 2 rfl) ?_
  refine x_callP (va_runS (As := [.int x, .int y]) (rest := []) ⟨hx, hb, hml, hown, htb⟩ (c_Bd_refuse l hok) (x_cS 2 htb mw_319 mw_1 mw_321 mw_320 rfl rfl (by decide +kernel) ⟨Nat.le_of_ble_eq_true rfl, Nat.le_of_ble_eq_true rfl⟩) (x_preS hK hN) rfl rfl hl.1 rfl (lv_room (Nat.le_of_ble_eq_true rfl)) d_Bd_rename_2 ⟨Nat.le_of_ble_eq_true rfl, Nat.le_of_ble_eq_true rfl⟩) ?_
  refine W.eq (g2 := F0 m 5 ls []) rfl ?_
  refine lv_iload_n hx hb d_Bd_rename_5 rfl (lv_at hl 3 rfl) ?_
  refine lv_iload hx hb d_Bd_rename_6 (lv_at hl 4 rfl) ?_
  refine x_callP (va_runS (As := [.int x2, .int y2]) (rest := []) ⟨hx, hb, hml, hown, htb⟩ (c_Bd_refuse l hok2) (x_cS 2 htb mw_319 mw_1 mw_321 mw_320 rfl rfl (by decide +kernel) ⟨Nat.le_of_ble_eq_true rfl, Nat.le_of_ble_eq_true rfl⟩) (x_preS hK hN) rfl rfl hl.1 rfl (lv_room (Nat.le_of_ble_eq_true rfl)) d_Bd_rename_8 ⟨Nat.le_of_ble_eq_true rfl, Nat.le_of_ble_eq_true rfl⟩) ?_
  refine W.eq (g2 := F0 m 11 ls []) rfl ?_
  refine lv_aload_n hx hb d_Bd_rename_11 rfl (lv_at hl 0 rfl) ?_
  refine lv_iload_n hx hb d_Bd_rename_12 rfl (lv_at hl 1 rfl) ?_
  refine lv_iload_n hx hb d_Bd_rename_13 rfl (lv_at hl 2 rfl) ?_
  exact x_leaveT (F := fun q : Nat => H0.size ≤ q) (x_runVT (As := [.int x, .int y]) (rest := []) ⟨hx, hb, hml, hown, htb⟩ (c_Bd_fileToChangeT l hlt0 hd hg) (x_cV 2 htb mw_426 mw_1 mw_429 mw_428 ms_7 rfl rfl (by decide +kernel) ⟨Nat.le_of_ble_eq_true rfl, Nat.le_of_ble_eq_true rfl⟩) (x_preVT hK hN hT h1 rfl) rfl rfl hl.1 rfl (lv_room (Nat.le_of_ble_eq_true rfl)) d_Bd_rename_14 ⟨Nat.le_of_ble_eq_true rfl, Nat.le_of_ble_eq_true rfl⟩) hL (fun q hq => hq) hout hlocks (fun H1 q => q)
set_option maxHeartbeats 4000000 in
set_option maxRecDepth 100000 in
theorem c_Bd_renameT3 (l : Launch) (hlt0 : l.stackTraces = false) {D : va_G} {A : Nat → ClassId} {H0 : Heap} {a z : Nat} {S : g_S} (hd : g_D D A a z S H0) {x y x2 y2 : Int32} (hok : g_ok x y) (hok2 : g_ok x2 y2) {f : g_F} (hg : g_get S.2.2.1 (x, y, S.2.1) = some f) (hge : 200 ≤ S.2.2.2.2.2.1.length) : x_MetT l y_Bd_rename w_Bd_rename { frames := 7, cells := 2, slots := 9, locals := 111 } (x_PcT D A (g_Mx a z) [.ref a, .int x, .int y, .int x2, .int y2] H0) (x_QT "java/lang/IllegalStateException" (fun H1 => H0.size ≤ H1.size ∧ ∀ q : Nat, q < H0.size → H1[q]? = H0[q]?)) 2 9 (fun q => H0.size ≤ q) := by
  refine x_ofWT (cc := prog_1_method_5_code) (maxL := 6) (ret := none) (by decide) rfl ?_
  intro p e s m args below meth c s₁ B hml hv
  obtain ⟨rfl, hH, hK, hN, hT⟩ := hv
  obtain ⟨hx, hb, hr, htb, hown, hlocks⟩ := x_start (wd := Cond.code y_Bd_rename prog_1_method_5_code 6 none) B
  have hout := x_nohand B
  have hTs : x_T (g_Mx a z) s s.heap := by rw [hH]; exact hT
  have hl := lv_entry ([.ref a, .int x, .int y, .int x2, .int y2]) (n := 6) (Nat.le_of_ble_eq_true rfl)
  rw [lg_entry_eq]
  generalize (lg_sl ([.ref a, .int x, .int y, .int x2, .int y2]) ++ List.replicate (6 - (lg_sl ([.ref a, .int x, .int y, .int x2, .int y2])).length) Slot.unset).toArray = ls at hl ⊢
  have hl : lv_has ls 6 [(0, .ref a), (1, .int x), (2, .int y), (3, .int x2), (4, .int y2)] := hl
  rw [hH]
  have hL : ∀ q ∈ ([] : List Loc), (fun q : Nat => H0.size ≤ q) q.base := fun q hq => by cases hq
  obtain ⟨pa, as, bs, cs, ds, h1, h2, h3, ⟨h4, h4s⟩, ⟨h5, h5s⟩, ⟨h6, h6s⟩, ⟨h7, h7s⟩, h8, h9⟩ := id hd
  refine lv_iload_n hx hb d_Bd_rename_0 rfl (lv_at hl 1 rfl) ?_
  refine lv_iload_n hx hb d_Bd_rename_1 rfl (lv_at hl 2 rfl) ?_
  refine x_callP (va_runS (As := [.int x, .int y]) (rest := []) ⟨hx, hb, hml, hown, htb⟩ (c_Bd_refuse l hok) (x_cS 2 htb mw_319 mw_1 mw_321 mw_320 rfl rfl (by decide +kernel) ⟨Nat.le_of_ble_eq_true rfl, Nat.le_of_ble_eq_true rfl⟩) (x_preS hK hN) rfl rfl hl.1 rfl (lv_room (Nat.le_of_ble_eq_true rfl)) d_Bd_rename_2 ⟨Nat.le_of_ble_eq_true rfl, Nat.le_of_ble_eq_true rfl⟩) ?_
  refine W.eq (g2 := F0 m 5 ls []) rfl ?_
  refine lv_iload_n hx hb d_Bd_rename_5 rfl (lv_at hl 3 rfl) ?_
  refine lv_iload hx hb d_Bd_rename_6 (lv_at hl 4 rfl) ?_
  refine x_callP (va_runS (As := [.int x2, .int y2]) (rest := []) ⟨hx, hb, hml, hown, htb⟩ (c_Bd_refuse l hok2) (x_cS 2 htb mw_319 mw_1 mw_321 mw_320 rfl rfl (by decide +kernel) ⟨Nat.le_of_ble_eq_true rfl, Nat.le_of_ble_eq_true rfl⟩) (x_preS hK hN) rfl rfl hl.1 rfl (lv_room (Nat.le_of_ble_eq_true rfl)) d_Bd_rename_8 ⟨Nat.le_of_ble_eq_true rfl, Nat.le_of_ble_eq_true rfl⟩) ?_
  refine W.eq (g2 := F0 m 11 ls []) rfl ?_
  refine lv_aload_n hx hb d_Bd_rename_11 rfl (lv_at hl 0 rfl) ?_
  refine lv_iload_n hx hb d_Bd_rename_12 rfl (lv_at hl 1 rfl) ?_
  refine lv_iload_n hx hb d_Bd_rename_13 rfl (lv_at hl 2 rfl) ?_
  refine x_callr (F := fun q : Nat => H0.size ≤ q) (va_runV (As := [.int x, .int y]) (rest := []) ⟨hx, hb, hml, hown, htb⟩ (c_Bd_fileToChange l hd hg) (x_cV 2 htb mw_426 mw_1 mw_429 mw_428 ms_7 rfl rfl (by decide +kernel) ⟨Nat.le_of_ble_eq_true rfl, Nat.le_of_ble_eq_true rfl⟩) (x_preV hK hN h1 rfl) rfl rfl hl.1 rfl (lv_room (Nat.le_of_ble_eq_true rfl)) d_Bd_rename_14 ⟨Nat.le_of_ble_eq_true rfl, Nat.le_of_ble_eq_true rfl⟩) hL (fun q hq => hq) (fun fa H1 locs hP hL => ?_)
  obtain ⟨f1, k1z, k1o⟩ := hP
  have hd1 := hd.ext k1z k1o
  have hk1 : g_K (g_M a z) H0 H1 := ⟨k1z, fun q hq _ => k1o q hq⟩
  have q1 := h1.kept (k1o a (by omega))
  obtain ⟨na, ca, f2, f3, f4, f5⟩ := id f1
  have hT := hT.kept hk1
  refine lv_astore (lv' := [(5, .ref fa), (0, .ref a), (1, .int x), (2, .int y), (3, .int x2), (4, .int y2)]) hx hb d_Bd_rename_17 hl (by decide) rfl (fun ls hl => ?_)
  refine lv_aload_n hx hb d_Bd_rename_19 rfl (lv_at hl 1 rfl) ?_
  exact x_leaveT (F := fun q : Nat => H0.size ≤ q) (x_runVT (As := []) (rest := []) ⟨hx, hb, hml, hown, htb⟩ (c_Bd_refuseFullT l hlt0 hd1 hge) (x_cV 0 htb mw_358 mw_1 mw_361 mw_360 ms_3 rfl rfl (by decide +kernel) ⟨Nat.le_of_ble_eq_true rfl, Nat.le_of_ble_eq_true rfl⟩) (x_preVT hK hN hT q1 rfl) rfl rfl hl.1 rfl (lv_room (Nat.le_of_ble_eq_true rfl)) d_Bd_rename_20 ⟨Nat.le_of_ble_eq_true rfl, Nat.le_of_ble_eq_true rfl⟩) hL (fun q hq => by have hq : H1.size ≤ q := hq; omega) hout hlocks (fun H2 q => ⟨by omega, fun q2 hq2 => by rw [q.2 q2 (by omega), k1o q2 hq2]⟩)
end
section
/-! THE REFERENCE: an object at b, its fifteen rows behind it -/
def m_ty (k : Nat) : Nat := [0, 0, 0, 3, 3, 3, 3, 0, 0, 3, 3, 3, 3, 3, 3, 0].getD k 0
def m_len (k : Nat) : Nat := [0, 400, 100, 320, 320, 320, 320, 32000, 128000, 200, 200, 200, 60, 60, 60, 6000].getD k 0
abbrev m_G : Type := Nat → Nat → Int32
/-- the rows -/
def m_R (D : va_G) (A : Nat → ClassId) (b : Nat) (G : m_G) (H : Heap) : Prop := ∀ k, 1 ≤ k → k ≤ 15 → va_at D x_cl (b + k, .inl (A (m_ty k), m_len k, .inl (G k))) H
/-- the object -/
def m_fs (b : Nat) (v0 v1 v2 v3 v4 v5 v6 v7 : Int32) : List Value := [.int v0, .ref (b + 1), .ref (b + 2), .int v1, .int v2, .ref (b + 3), .ref (b + 4), .ref (b + 5), .ref (b + 6), .ref (b + 7), .ref (b + 8), .int v3, .int v4, .int v5, .int v6, .ref (b + 9), .ref (b + 10), .ref (b + 11), .int v7, .ref (b + 12), .ref (b + 13), .ref (b + 14), .ref (b + 15)]
abbrev m_O (D : va_G) (b : Nat) (v0 v1 v2 v3 v4 v5 v6 v7 : Int32) (H : Heap) : Prop := va_at D x_cl (b, .inr (8, m_fs b v0 v1 v2 v3 v4 v5 v6 v7)) H
def m_K (b : Nat) (H H1 : Heap) : Prop := H1.size = H.size ∧ ∀ q : Nat, (q < b ∨ b + 15 < q) → H1[q]? = H[q]?
def m_up (G : m_G) (k : Nat) (f : Nat → Int32) : m_G := fun j => if j = k then f else G j
def m_fq (b : Nat) : Nat → Prop := fun q => b ≤ q ∧ q ≤ b + 15
theorem m_up_self (G : m_G) (k : Nat) (f : Nat → Int32) : m_up G k f k = f := if_pos rfl
theorem m_up_ne (G : m_G) {k j : Nat} (f : Nat → Int32) (h : j ≠ k) : m_up G k f j = G j := if_neg h
theorem m_up_id (G : m_G) (k : Nat) : m_up G k (G k) = G := by
  funext j
  by_cases h : j = k
  · rw [h, m_up_self]
  · rw [m_up_ne _ _ h]
theorem m_up_up (G : m_G) (k : Nat) (f g : Nat → Int32) : m_up (m_up G k f) k g = m_up G k g := by
  funext j
  by_cases h : j = k
  · rw [h, m_up_self, m_up_self]
  · rw [m_up_ne _ _ h, m_up_ne _ _ h, m_up_ne _ _ h]
theorem m_K.refl {b : Nat} {H : Heap} : m_K b H H := ⟨rfl, fun _ _ => rfl⟩
theorem m_K.trans {b : Nat} {H H1 H2 : Heap} (h : m_K b H H1) (h2 : m_K b H1 H2) : m_K b H H2 := ⟨h2.1.trans h.1, fun q hq => (h2.2 q hq).trans (h.2 q hq)⟩
theorem m_K.but {b k : Nat} {H H1 : Heap} (h : x_but (b + k) H H1) (hk : k ≤ 15) : m_K b H H1 := ⟨h.1, fun q hq => h.2 q (by omega)⟩
theorem m_K.but0 {b : Nat} {H H1 : Heap} (h : x_but b H H1) : m_K b H H1 := ⟨h.1, fun q hq => h.2 q (by omega)⟩
theorem m_R.but0 {D : va_G} {A : Nat → ClassId} {b : Nat} {G : m_G} {H H1 : Heap} (h : m_R D A b G H) (hb : x_but b H H1) : m_R D A b G H1 := fun k h1 h2 => hb.at (h k h1 h2) (by omega)
theorem m_R.up {D : va_G} {A : Nat → ClassId} {b k : Nat} {G : m_G} {f : Nat → Int32} {H H1 : Heap} (h : m_R D A b G H) (hb : x_but (b + k) H H1) (hn : va_at D x_cl (b + k, .inl (A (m_ty k), m_len k, .inl f)) H1) : m_R D A b (m_up G k f) H1 := fun j h1 h2 => by
  by_cases e : j = k
  · subst e
    rw [m_up_self]
    exact hn
  · rw [m_up_ne _ _ e]
    exact hb.at (h j h1 h2) (by omega)
theorem m_len_lt (k : Nat) : m_len k < 2 ^ 31 := by
  unfold m_len
  match k with
  | 0 | 1 | 2 | 3 | 4 | 5 | 6 | 7 | 8 | 9 | 10 | 11 | 12 | 13 | 14 | 15 => decide
  | k + 16 => exact (by decide : (0 : Nat) < 2 ^ 31)
section ML
variable {p : Program} {l : Launch} {e : Env} {R : Room} {s : State} {m : MethodId} {args : Array Value} {below : List Frame} {meth : Method} {c : Code} {H H0 : Heap} {locs : List Loc} {cells slots : Nat} {Q : State → Prop}
variable {cc : ByteArray} {pc : Nat} {ls : Array Slot} {rest : List Value} {D : va_G} {A : Nat → ClassId} {b : Nat} {G : m_G}
theorem m_ild (hexec : p.tables.exec = Jvm.exec) (hb : c.code = cc) (hK : va_K D x_cl (x_tys A) s) (hR : m_R D A b G H) (k : Nat) (h1 : 1 ≤ k) (h2 : k ≤ 15) (ht : m_ty k = 3) {i : Nat} (hi : i < m_len k) (hdg : decode cc pc = .ok (.iaload, 1))
    (kk : W p l e R s m args below meth c H locs cells slots Q (F0 m (pc + 1) ls (.int (G k i) :: rest))) : W p l e R s m args below meth c H locs cells slots Q (F0 m pc ls (.int (nI i) :: .ref (b + k) :: rest)) := by
  have hl := m_len_lt k
  refine x_iald hexec hb hK 3 (hR k h1 h2) (by rw [ht]; rfl) (vp_in_nI hi hl) hdg ?_
  rw [nI_clamp (by omega)]
  exact kk
theorem m_bld (hexec : p.tables.exec = Jvm.exec) (hb : c.code = cc) (hK : va_K D x_cl (x_tys A) s) (hR : m_R D A b G H) (k : Nat) (h1 : 1 ≤ k) (h2 : k ≤ 15) (ht : m_ty k = 0) {i : Nat} (hi : i < m_len k) (hdg : decode cc pc = .ok (.baload, 1))
    (kk : W p l e R s m args below meth c H locs cells slots Q (F0 m (pc + 1) ls (.int (G k i) :: rest))) : W p l e R s m args below meth c H locs cells slots Q (F0 m pc ls (.int (nI i) :: .ref (b + k) :: rest)) := by
  have hl := m_len_lt k
  refine x_bald hexec hb hK 0 (hR k h1 h2) (by rw [ht]; rfl) (vp_in_nI hi hl) hdg ?_
  rw [nI_clamp (by omega)]
  exact kk
theorem m_ist (hexec : p.tables.exec = Jvm.exec) (hb : c.code = cc) (hK : va_K D x_cl (x_tys A) s) {fs : List Value} (ho : va_at D x_cl (b, .inr (8, fs)) H) (hM : m_K b H0 H) (hL : ∀ q ∈ locs, m_fq b q.base) (hR : m_R D A b G H) (k : Nat) (h1 : 1 ≤ k) (h2 : k ≤ 15) (ht : m_ty k = 3) {i : Nat} {x : Int32} (hi : i < m_len k) (hdg : decode cc pc = .ok (.iastore, 1))
    (kk : ∀ (H1 : Heap) (locs1 : List Loc), va_at D x_cl (b, .inr (8, fs)) H1 → m_K b H0 H1 → (∀ q ∈ locs1, m_fq b q.base) → m_R D A b (m_up G k (upd (G k) i x)) H1 → W p l e R s m args below meth c H1 locs1 cells slots Q (F0 m (pc + 1) ls rest)) : W p l e R s m args below meth c H locs cells slots Q (F0 m pc ls (.int x :: .int (nI i) :: .ref (b + k) :: rest)) := by
  have hl := m_len_lt k
  refine x_iast (F := m_fq b) hexec hb hK 3 (hR k h1 h2) hL ⟨by omega, by omega⟩ (by rw [ht]; rfl) (vp_in_nI hi hl) hdg (fun H1 locs1 e1 e2 e3 => ?_)
  rw [nI_clamp (by omega)] at e1
  exact kk H1 locs1 (e2.at ho (by omega)) (hM.trans (.but e2 h2)) e3 (hR.up e2 e1)
theorem m_bst (hexec : p.tables.exec = Jvm.exec) (hb : c.code = cc) (hK : va_K D x_cl (x_tys A) s) {fs : List Value} (ho : va_at D x_cl (b, .inr (8, fs)) H) (hM : m_K b H0 H) (hL : ∀ q ∈ locs, m_fq b q.base) (hR : m_R D A b G H) (k : Nat) (h1 : 1 ≤ k) (h2 : k ≤ 15) (ht : m_ty k = 0) {i : Nat} {x : Int32} (hi : i < m_len k) (hx8 : vp_nar .byte x = x) (hdg : decode cc pc = .ok (.bastore, 1))
    (kk : ∀ (H1 : Heap) (locs1 : List Loc), va_at D x_cl (b, .inr (8, fs)) H1 → m_K b H0 H1 → (∀ q ∈ locs1, m_fq b q.base) → m_R D A b (m_up G k (upd (G k) i x)) H1 → W p l e R s m args below meth c H1 locs1 cells slots Q (F0 m (pc + 1) ls rest)) : W p l e R s m args below meth c H locs cells slots Q (F0 m pc ls (.int x :: .int (nI i) :: .ref (b + k) :: rest)) := by
  have hl := m_len_lt k
  refine x_bast (F := m_fq b) hexec hb hK 0 (hR k h1 h2) hL ⟨by omega, by omega⟩ (by rw [ht]; rfl) (vp_in_nI hi hl) hdg (fun H1 locs1 e1 e2 e3 => ?_)
  rw [nI_clamp (by omega), hx8] at e1
  exact kk H1 locs1 (e2.at ho (by omega)) (hM.trans (.but e2 h2)) e3 (hR.up e2 e1)
end ML
theorem m_nar (u : Nat) : vp_nar .byte (sb_b u) = sb_b u := by
  unfold sb_b
  exact pk_vb _
/-- entry e of the rows holds the file f -/
def m_e (G : m_G) (e : Nat) (f : g_F) : Prop := (G 3 e = f.1.1 ∧ G 4 e = f.1.2.1) ∧ (G 5 e = nI f.1.2.2.length ∧ f.1.2.2.length ≤ 100 ∧ (∀ k, k < f.1.2.2.length → G 7 (100 * e + k) = sb_b (f.1.2.2.getD k 0)) ∧ ∀ u ∈ f.1.2.2, u < 256) ∧ (G 6 e = nI f.2.length ∧ f.2.length ≤ 400 ∧ (∀ k, k < f.2.length → G 8 (400 * e + k) = sb_b (f.2.getD k 0)) ∧ ∀ u ∈ f.2, u < 256)
/-- no entry but t differs, nor any other row -/
def m_fr (t : Nat) (G G' : m_G) : Prop := (∀ e, e ≠ t → (∀ k, 3 ≤ k → k ≤ 6 → G' k e = G k e) ∧ (∀ k, k < 100 → G' 7 (100 * e + k) = G 7 (100 * e + k)) ∧ (∀ k, k < 400 → G' 8 (400 * e + k) = G 8 (400 * e + k))) ∧ ∀ k, (k < 3 ∨ 8 < k) → G' k = G k
theorem m_fr.refl {t : Nat} {G : m_G} : m_fr t G G := ⟨fun _ _ => ⟨fun _ _ _ => rfl, fun _ _ => rfl, fun _ _ => rfl⟩, fun _ _ => rfl⟩
theorem m_fr.trans {t : Nat} {G G1 G2 : m_G} (h : m_fr t G G1) (h2 : m_fr t G1 G2) : m_fr t G G2 := ⟨fun e he => ⟨fun k a b => ((h2.1 e he).1 k a b).trans ((h.1 e he).1 k a b), fun k a => ((h2.1 e he).2.1 k a).trans ((h.1 e he).2.1 k a), fun k a => ((h2.1 e he).2.2 k a).trans ((h.1 e he).2.2 k a)⟩, fun k a => (h2.2 k a).trans (h.2 k a)⟩
theorem m_fr.e {t e : Nat} {G G' : m_G} {f : g_F} (h : m_fr t G G') (he : e ≠ t) (hf : m_e G e f) : m_e G' e f := by
  obtain ⟨a, b, c⟩ := h.1 e he
  obtain ⟨⟨f1, f2⟩, ⟨f3, f4, f5, f6⟩, f7, f8, f9, f10⟩ := hf
  exact ⟨⟨(a 3 (by decide) (by decide)).trans f1, (a 4 (by decide) (by decide)).trans f2⟩, ⟨(a 5 (by decide) (by decide)).trans f3, f4, fun k hk => (b k (by omega)).trans (f5 k hk), f6⟩, (a 6 (by decide) (by decide)).trans f7, f8, fun k hk => (c k (by omega)).trans (f9 k hk), f10⟩
theorem m_fr.set {t k : Nat} {G : m_G} {x : Int32} (h1 : 3 ≤ k) (h2 : k ≤ 6) : m_fr t G (m_up G k (upd (G k) t x)) := ⟨fun e he => ⟨fun j a b => by
    by_cases q : j = k
    · subst q
      rw [m_up_self, pk_un he]
    · rw [m_up_ne _ _ q], fun j _ => by rw [m_up_ne _ _ (by omega)], fun j _ => by rw [m_up_ne _ _ (by omega)]⟩, fun j hj => m_up_ne _ _ (by omega)⟩
theorem m_fr.p {t i : Nat} {G : m_G} {x : Int32} (hi : i < 100) : m_fr t G (m_up G 7 (upd (G 7) (100 * t + i) x)) := ⟨fun e he => ⟨fun j a b => by rw [m_up_ne _ _ (by omega)], fun j _ => by rw [m_up_self, pk_un (by omega)], fun j _ => by rw [m_up_ne _ _ (by decide)]⟩, fun j hj => m_up_ne _ _ (by omega)⟩
theorem m_fr.c {t i : Nat} {G : m_G} {x : Int32} (hi : i < 400) : m_fr t G (m_up G 8 (upd (G 8) (400 * t + i) x)) := ⟨fun e he => ⟨fun j a b => by rw [m_up_ne _ _ (by omega)], fun j _ => by rw [m_up_ne _ _ (by decide)], fun j _ => by rw [m_up_self, pk_un (by omega)]⟩, fun j hj => m_up_ne _ _ (by omega)⟩
end
section
set_option maxHeartbeats 4000000 in
set_option maxRecDepth 100000 in
theorem c_Mo_copy (l : Launch) {D : va_G} {A : Nat → ClassId} {H0 : Heap} {b : Nat} {v0 v1 v2 v3 v4 v5 v6 v7 : Int32} {G : m_G} (ho : m_O D b v0 v1 v2 v3 v4 v5 v6 v7 H0) (hR : m_R D A b G H0) {i j : Nat} {f : g_F} (hi : i < 320) (hj : j < 320) (hne : i ≠ j) (hf : m_e G i f) : Met l y_Mo_copy w_Mo_copy { frames := 0, cells := 0, slots := 0, locals := 0 } (x_Pc D A [.ref b, .int (nI i), .int (nI j)] H0) (x_Q none (fun H1 => ∃ G1 : m_G, m_O D b v0 v1 v2 v3 v4 v5 v6 v7 H1 ∧ m_R D A b G1 H1 ∧ m_K b H0 H1 ∧ m_e G1 j f ∧ m_fr j G G1)) 0 0 (m_fq b) := by
  refine Met.ofW (cc := prog_10_method_5_code) (maxL := 4) (ret := none) (by decide) rfl ?_
  intro p e s m args below meth c s₁ B hml hv
  obtain ⟨rfl, hH, hK, hN⟩ := hv
  obtain ⟨hx, hb, hr, htb, hown, hlocks⟩ := x_start (wd := Cond.code y_Mo_copy prog_10_method_5_code 4 none) B
  have hl := lv_entry ([.ref b, .int (nI i), .int (nI j)]) (n := 4) (Nat.le_of_ble_eq_true rfl)
  rw [lg_entry_eq]
  generalize (lg_sl ([.ref b, .int (nI i), .int (nI j)]) ++ List.replicate (4 - (lg_sl ([.ref b, .int (nI i), .int (nI j)])).length) Slot.unset).toArray = ls at hl ⊢
  have hl : lv_has ls 4 [(0, .ref b), (1, .int (nI i)), (2, .int (nI j))] := hl
  rw [hH]
  have hM : m_K b H0 H0 := m_K.refl
  have hL : ∀ q ∈ ([] : List Loc), m_fq b q.base := fun q hq => by cases hq
  obtain ⟨⟨f1, f2⟩, ⟨f3, f4, f5, f6⟩, f7, f8, f9, f10⟩ := id hf
  refine lv_aload_n hx hb d_Mo_copy_0 rfl (lv_at hl 0 rfl) ?_
  refine x_get (ci := 8) (T := T_Mo) hx hb htb u_Mo hown hK ho rfl 5 (by decide) (htb _ mw_465) (fun _ h9 => h9) (v := .ref (b + 3)) rfl d_Mo_copy_1 ?_
  refine lv_iload_n hx hb d_Mo_copy_4 rfl (lv_at hl 2 rfl) ?_
  refine lv_aload_n hx hb d_Mo_copy_5 rfl (lv_at hl 0 rfl) ?_
  refine x_get (ci := 8) (T := T_Mo) hx hb htb u_Mo hown hK ho rfl 5 (by decide) (htb _ mw_465) (fun _ h9 => h9) (v := .ref (b + 3)) rfl d_Mo_copy_6 ?_
  refine lv_iload_n hx hb d_Mo_copy_9 rfl (lv_at hl 1 rfl) ?_
  refine m_ild hx hb hK hR 3 (by decide) (by decide) rfl (i := i) (show _ < 320 by omega) d_Mo_copy_10 ?_
  refine x_top (y := f.1.1) (by exact f1) ?_
  refine m_ist hx hb hK ho hM hL hR 3 (by decide) (by decide) rfl (i := j) (show _ < 320 by omega) d_Mo_copy_11 (fun Ha0 locs ho hM hL hR => ?_)
  obtain ⟨G1, eG1⟩ : ∃ G9 : m_G, G9 = m_up G 3 (upd (G 3) j f.1.1) := ⟨_, rfl⟩
  rw [← eG1] at hR
  have uG1 : ∀ j, j ≠ 3 → G1 j = G j := fun j h => by rw [eG1]; exact m_up_ne _ _ h
  have sG1 : G1 3 = upd (G 3) j f.1.1 := by rw [eG1]; exact m_up_self _ _ _
  refine lv_aload_n hx hb d_Mo_copy_12 rfl (lv_at hl 0 rfl) ?_
  refine x_get (ci := 8) (T := T_Mo) hx hb htb u_Mo hown hK ho rfl 6 (by decide) (htb _ mw_466) (fun _ h9 => h9) (v := .ref (b + 4)) rfl d_Mo_copy_13 ?_
  refine lv_iload_n hx hb d_Mo_copy_16 rfl (lv_at hl 2 rfl) ?_
  refine lv_aload_n hx hb d_Mo_copy_17 rfl (lv_at hl 0 rfl) ?_
  refine x_get (ci := 8) (T := T_Mo) hx hb htb u_Mo hown hK ho rfl 6 (by decide) (htb _ mw_466) (fun _ h9 => h9) (v := .ref (b + 4)) rfl d_Mo_copy_18 ?_
  refine lv_iload_n hx hb d_Mo_copy_21 rfl (lv_at hl 1 rfl) ?_
  refine m_ild hx hb hK hR 4 (by decide) (by decide) rfl (i := i) (show _ < 320 by omega) d_Mo_copy_22 ?_
  refine x_top (y := f.1.2.1) (by rw [eG1, m_up_ne _ _ (by decide)]; exact f2) ?_
  refine m_ist hx hb hK ho hM hL hR 4 (by decide) (by decide) rfl (i := j) (show _ < 320 by omega) d_Mo_copy_23 (fun Ha1 locs ho hM hL hR => ?_)
  obtain ⟨G2, eG2⟩ : ∃ G9 : m_G, G9 = m_up G1 4 (upd (G1 4) j f.1.2.1) := ⟨_, rfl⟩
  rw [← eG2] at hR
  have uG2 : ∀ j, j ≠ 4 → G2 j = G1 j := fun j h => by rw [eG2]; exact m_up_ne _ _ h
  have sG2 : G2 4 = upd (G1 4) j f.1.2.1 := by rw [eG2]; exact m_up_self _ _ _
  refine lv_aload_n hx hb d_Mo_copy_24 rfl (lv_at hl 0 rfl) ?_
  refine x_get (ci := 8) (T := T_Mo) hx hb htb u_Mo hown hK ho rfl 7 (by decide) (htb _ mw_467) (fun _ h9 => h9) (v := .ref (b + 5)) rfl d_Mo_copy_25 ?_
  refine lv_iload_n hx hb d_Mo_copy_28 rfl (lv_at hl 2 rfl) ?_
  refine lv_aload_n hx hb d_Mo_copy_29 rfl (lv_at hl 0 rfl) ?_
  refine x_get (ci := 8) (T := T_Mo) hx hb htb u_Mo hown hK ho rfl 7 (by decide) (htb _ mw_467) (fun _ h9 => h9) (v := .ref (b + 5)) rfl d_Mo_copy_30 ?_
  refine lv_iload_n hx hb d_Mo_copy_33 rfl (lv_at hl 1 rfl) ?_
  refine m_ild hx hb hK hR 5 (by decide) (by decide) rfl (i := i) (show _ < 320 by omega) d_Mo_copy_34 ?_
  refine x_top (y := nI f.1.2.2.length) (by rw [eG2, m_up_ne _ _ (by decide), eG1, m_up_ne _ _ (by decide)]; exact f3) ?_
  refine m_ist hx hb hK ho hM hL hR 5 (by decide) (by decide) rfl (i := j) (show _ < 320 by omega) d_Mo_copy_35 (fun Ha2 locs ho hM hL hR => ?_)
  obtain ⟨G3, eG3⟩ : ∃ G9 : m_G, G9 = m_up G2 5 (upd (G2 5) j (nI f.1.2.2.length)) := ⟨_, rfl⟩
  rw [← eG3] at hR
  have uG3 : ∀ j, j ≠ 5 → G3 j = G2 j := fun j h => by rw [eG3]; exact m_up_ne _ _ h
  have sG3 : G3 5 = upd (G2 5) j (nI f.1.2.2.length) := by rw [eG3]; exact m_up_self _ _ _
  refine lv_aload_n hx hb d_Mo_copy_36 rfl (lv_at hl 0 rfl) ?_
  refine x_get (ci := 8) (T := T_Mo) hx hb htb u_Mo hown hK ho rfl 8 (by decide) (htb _ mw_468) (fun _ h9 => h9) (v := .ref (b + 6)) rfl d_Mo_copy_37 ?_
  refine lv_iload_n hx hb d_Mo_copy_40 rfl (lv_at hl 2 rfl) ?_
  refine lv_aload_n hx hb d_Mo_copy_41 rfl (lv_at hl 0 rfl) ?_
  refine x_get (ci := 8) (T := T_Mo) hx hb htb u_Mo hown hK ho rfl 8 (by decide) (htb _ mw_468) (fun _ h9 => h9) (v := .ref (b + 6)) rfl d_Mo_copy_42 ?_
  refine lv_iload_n hx hb d_Mo_copy_45 rfl (lv_at hl 1 rfl) ?_
  refine m_ild hx hb hK hR 6 (by decide) (by decide) rfl (i := i) (show _ < 320 by omega) d_Mo_copy_46 ?_
  refine x_top (y := nI f.2.length) (by rw [eG3, m_up_ne _ _ (by decide), eG2, m_up_ne _ _ (by decide), eG1, m_up_ne _ _ (by decide)]; exact f7) ?_
  refine m_ist hx hb hK ho hM hL hR 6 (by decide) (by decide) rfl (i := j) (show _ < 320 by omega) d_Mo_copy_47 (fun Ha3 locs ho hM hL hR => ?_)
  obtain ⟨G4, eG4⟩ : ∃ G9 : m_G, G9 = m_up G3 6 (upd (G3 6) j (nI f.2.length)) := ⟨_, rfl⟩
  rw [← eG4] at hR
  have uG4 : ∀ j, j ≠ 6 → G4 j = G3 j := fun j h => by rw [eG4]; exact m_up_ne _ _ h
  have sG4 : G4 6 = upd (G3 6) j (nI f.2.length) := by rw [eG4]; exact m_up_self _ _ _
  have hfr : m_fr j G G4 := by
    rw [eG4]
    refine m_fr.trans ?_ (m_fr.set (by decide) (by decide))
    rw [eG3]
    refine m_fr.trans ?_ (m_fr.set (by decide) (by decide))
    rw [eG2]
    refine m_fr.trans ?_ (m_fr.set (by decide) (by decide))
    rw [eG1]
    exact m_fr.set (by decide) (by decide)
  have hj4 : (G4 3 j = f.1.1 ∧ G4 4 j = f.1.2.1) ∧ G4 5 j = nI f.1.2.2.length ∧ G4 6 j = nI f.2.length := by
    refine ⟨⟨?_, ?_⟩, ?_, ?_⟩
    · rw [eG4, m_up_ne _ _ (by decide), eG3, m_up_ne _ _ (by decide), eG2, m_up_ne _ _ (by decide), eG1, m_up_self, pk_us]
    · rw [eG4, m_up_ne _ _ (by decide), eG3, m_up_ne _ _ (by decide), eG2, m_up_self, pk_us]
    · rw [eG4, m_up_ne _ _ (by decide), eG3, m_up_self, pk_us]
    · rw [eG4, m_up_self, pk_us]
  clear uG1 sG1 uG2 sG2 uG3 sG3 uG4 sG4 eG1 eG2 eG3 eG4
  refine lv_iconst (v := 0) hx hb d_Mo_copy_48 (by decide) ?_
  refine lv_istore_n (lv' := [(3, .int 0), (0, .ref b), (1, .int (nI i)), (2, .int (nI j))]) hx hb d_Mo_copy_49 rfl hl (by decide) rfl (fun ls hl => ?_)
  refine x_loop (σ := Nat × m_G × Heap × List Loc × Array Slot) (fun z => F0 m 50 z.2.2.2.2 []) (fun z => z.2.2.1) (fun z => z.2.2.2.1) (fun z => z.1 ≤ f.1.2.2.length ∧ m_O D b v0 v1 v2 v3 v4 v5 v6 v7 z.2.2.1 ∧ m_R D A b z.2.1 z.2.2.1 ∧ m_K b H0 z.2.2.1 ∧ (∀ q ∈ z.2.2.2.1, m_fq b q.base) ∧ m_fr j G z.2.1 ∧ ((z.2.1 3 j = f.1.1 ∧ z.2.1 4 j = f.1.2.1) ∧ z.2.1 5 j = nI f.1.2.2.length ∧ z.2.1 6 j = nI f.2.length) ∧ (∀ q, q < z.1 → z.2.1 7 (100 * j + q) = sb_b (f.1.2.2.getD q 0)) ∧ lv_has z.2.2.2.2 4 [(3, .int (nI z.1)), (0, .ref b), (1, .int (nI i)), (2, .int (nI j))]) (fun z => f.1.2.2.length - z.1) (s0 := (0, G4, Ha3, _, ls)) ⟨Nat.zero_le _, ho, hR, hM, hL, hfr, hj4, (fun q hq => absurd hq (Nat.not_lt_zero q)), (lv_sub hl [0, 1, 2, 3] rfl)⟩ ?_
  clear hR ho hM hL hl
  rintro ⟨k, G5, H, locs, ls⟩ ⟨hk, ho, hR, hM, hL, hfr, hjj, hp, hl⟩ ih
  dsimp only at hk ho hR hM hL hfr hjj hp hl ih ⊢
  obtain ⟨⟨f1, f2⟩, ⟨f3, f4, f5, f6⟩, f7, f8, f9, f10⟩ := hfr.e hne hf
  refine lv_iload_n hx hb d_Mo_copy_50 rfl (lv_at hl 0 rfl) ?_
  refine lv_aload_n hx hb d_Mo_copy_51 rfl (lv_at hl 1 rfl) ?_
  refine x_get (ci := 8) (T := T_Mo) hx hb htb u_Mo hown hK ho rfl 7 (by decide) (htb _ mw_467) (fun _ h9 => h9) (v := .ref (b + 5)) rfl d_Mo_copy_52 ?_
  refine lv_iload_n hx hb d_Mo_copy_55 rfl (lv_at hl 2 rfl) ?_
  refine m_ild hx hb hK hR 5 (by decide) (by decide) rfl (i := i) (show _ < 320 by omega) d_Mo_copy_56 ?_
  refine x_top (y := nI f.1.2.2.length) (f3) ?_
  refine lv_icmp_ge (tgt := 88) hx hb d_Mo_copy_57 (by decide) (fun c1 => ?_) (fun c1 => ?_)
  · have e1 : k = f.1.2.2.length := Nat.le_antisymm hk (Nat.le_of_not_lt fun q => absurd c1 (nI_ge q (by omega)))
    subst e1
    clear ih
    refine lv_iconst (v := 0) hx hb d_Mo_copy_88 (by decide) ?_
    refine lv_istore_n (lv' := [(3, .int 0), (0, .ref b), (1, .int (nI i)), (2, .int (nI j))]) hx hb d_Mo_copy_89 rfl hl (by decide) rfl (fun ls hl => ?_)
    refine x_loop (σ := Nat × m_G × Heap × List Loc × Array Slot) (fun z => F0 m 90 z.2.2.2.2 []) (fun z => z.2.2.1) (fun z => z.2.2.2.1) (fun z => z.1 ≤ f.2.length ∧ m_O D b v0 v1 v2 v3 v4 v5 v6 v7 z.2.2.1 ∧ m_R D A b z.2.1 z.2.2.1 ∧ m_K b H0 z.2.2.1 ∧ (∀ q ∈ z.2.2.2.1, m_fq b q.base) ∧ m_fr j G z.2.1 ∧ ((z.2.1 3 j = f.1.1 ∧ z.2.1 4 j = f.1.2.1) ∧ z.2.1 5 j = nI f.1.2.2.length ∧ z.2.1 6 j = nI f.2.length) ∧ (∀ q, q < f.1.2.2.length → z.2.1 7 (100 * j + q) = sb_b (f.1.2.2.getD q 0)) ∧ (∀ q, q < z.1 → z.2.1 8 (400 * j + q) = sb_b (f.2.getD q 0)) ∧ lv_has z.2.2.2.2 4 [(3, .int (nI z.1)), (0, .ref b), (1, .int (nI i)), (2, .int (nI j))]) (fun z => f.2.length - z.1) (s0 := (0, G5, H, _, ls)) ⟨Nat.zero_le _, ho, hR, hM, hL, hfr, hjj, hp, (fun q hq => absurd hq (Nat.not_lt_zero q)), (lv_sub hl [0, 1, 2, 3] rfl)⟩ ?_
    clear hR ho hM hL hl
    rintro ⟨k, G6, H, locs, ls⟩ ⟨hk, ho, hR, hM, hL, hfr, hjj, hp, hq8, hl⟩ ih
    dsimp only at hk ho hR hM hL hfr hjj hp hq8 hl ih ⊢
    obtain ⟨⟨f1, f2⟩, ⟨f3, f4, f5, f6⟩, f7, f8, f9, f10⟩ := hfr.e hne hf
    refine lv_iload_n hx hb d_Mo_copy_90 rfl (lv_at hl 0 rfl) ?_
    refine lv_aload_n hx hb d_Mo_copy_91 rfl (lv_at hl 1 rfl) ?_
    refine x_get (ci := 8) (T := T_Mo) hx hb htb u_Mo hown hK ho rfl 8 (by decide) (htb _ mw_468) (fun _ h9 => h9) (v := .ref (b + 6)) rfl d_Mo_copy_92 ?_
    refine lv_iload_n hx hb d_Mo_copy_95 rfl (lv_at hl 2 rfl) ?_
    refine m_ild hx hb hK hR 6 (by decide) (by decide) rfl (i := i) (show _ < 320 by omega) d_Mo_copy_96 ?_
    refine x_top (y := nI f.2.length) (f7) ?_
    refine lv_icmp_ge (tgt := 130) hx hb d_Mo_copy_97 (by decide) (fun c2 => ?_) (fun c2 => ?_)
    · have e1 : k = f.2.length := Nat.le_antisymm hk (Nat.le_of_not_lt fun q => absurd c2 (nI_ge q (by omega)))
      subst e1
      exact x_vret hx hb hr hlocks ⟨G6, ho, hR, hM, ⟨hjj.1, ⟨hjj.2.1, f4, hp, f6⟩, hjj.2.2, f8, hq8, f10⟩, hfr⟩ hL (Nat.le_refl _) (Nat.le_refl _) d_Mo_copy_130
    · have hlt : k < f.2.length := Nat.lt_of_not_le fun q => absurd (nI_le q (by omega)) c2
      refine lv_aload_n hx hb d_Mo_copy_100 rfl (lv_at hl 1 rfl) ?_
      refine x_get (ci := 8) (T := T_Mo) hx hb htb u_Mo hown hK ho rfl 10 (by decide) (htb _ mw_470) (fun _ h9 => h9) (v := .ref (b + 8)) rfl d_Mo_copy_101 ?_
      refine lv_sipush (v := 400) hx hb d_Mo_copy_104 (by decide) ?_
      refine lv_iload_n hx hb d_Mo_copy_107 rfl (lv_at hl 3 rfl) ?_
      refine lv_imul hx hb d_Mo_copy_108 ?_
      refine lv_iload_n hx hb d_Mo_copy_109 rfl (lv_at hl 0 rfl) ?_
      refine lv_iadd hx hb d_Mo_copy_110 ?_
      refine x_top (y := nI (400 * j + k)) (by rw [show (400 : Int32) = nI 400 from rfl, pk_mul, nI_add]) ?_
      refine lv_aload_n hx hb d_Mo_copy_111 rfl (lv_at hl 1 rfl) ?_
      refine x_get (ci := 8) (T := T_Mo) hx hb htb u_Mo hown hK ho rfl 10 (by decide) (htb _ mw_470) (fun _ h9 => h9) (v := .ref (b + 8)) rfl d_Mo_copy_112 ?_
      refine lv_sipush (v := 400) hx hb d_Mo_copy_115 (by decide) ?_
      refine lv_iload_n hx hb d_Mo_copy_118 rfl (lv_at hl 2 rfl) ?_
      refine lv_imul hx hb d_Mo_copy_119 ?_
      refine lv_iload_n hx hb d_Mo_copy_120 rfl (lv_at hl 0 rfl) ?_
      refine lv_iadd hx hb d_Mo_copy_121 ?_
      refine x_top (y := nI (400 * i + k)) (by rw [show (400 : Int32) = nI 400 from rfl, pk_mul, nI_add]) ?_
      refine m_bld hx hb hK hR 8 (by decide) (by decide) rfl (i := 400 * i + k) (show _ < 128000 by omega) d_Mo_copy_122 ?_
      refine x_top (y := sb_b (f.2.getD k 0)) (f9 k hlt) ?_
      refine m_bst hx hb hK ho hM hL hR 8 (by decide) (by decide) rfl (i := 400 * j + k) (show _ < 128000 by omega) (m_nar _) d_Mo_copy_123 (fun H7 locs ho hM hL hR => ?_)
      obtain ⟨G7, eG7⟩ : ∃ G9 : m_G, G9 = m_up G6 8 (upd (G6 8) (400 * j + k) (sb_b (f.2.getD k 0))) := ⟨_, rfl⟩
      rw [← eG7] at hR
      have uG7 : ∀ j, j ≠ 8 → G7 j = G6 j := fun j h => by rw [eG7]; exact m_up_ne _ _ h
      have sG7 : G7 8 = upd (G6 8) (400 * j + k) (sb_b (f.2.getD k 0)) := by rw [eG7]; exact m_up_self _ _ _
      have hfr7 : m_fr j G6 G7 := by rw [eG7]; exact m_fr.c (by omega)
      refine lv_iinc (v := nI (k + 1)) (lv' := [(3, .int (nI (k + 1))), (0, .ref b), (1, .int (nI i)), (2, .int (nI j))]) hx hb d_Mo_copy_124 hl (k := 0) rfl (nI_1 k) (by decide) rfl (fun ls hl => ?_)
      refine lv_goto (tgt := 90) hx hb d_Mo_copy_127 (by decide) ?_
      refine ih (k + 1, G7, H7, locs, ls) ⟨hlt, ho, hR, hM, hL, hfr.trans hfr7, ⟨⟨(congrFun (uG7 _ (by decide)) _).trans hjj.1.1, (congrFun (uG7 _ (by decide)) _).trans hjj.1.2⟩, (congrFun (uG7 _ (by decide)) _).trans hjj.2.1, (congrFun (uG7 _ (by decide)) _).trans hjj.2.2⟩, (fun q hq => (congrFun (uG7 _ (by decide)) _).trans (hp q hq)), fun q hq => ?_, (lv_sub hl [0, 1, 2, 3] rfl)⟩ (by show f.2.length - (k + 1) < f.2.length - k; omega)
      have hq : q < k + 1 := hq
      show G7 8 (400 * j + q) = _
      rw [eG7, m_up_self]
      rcases Nat.eq_or_lt_of_le (Nat.le_of_lt_succ hq) with e | e
      · subst e; rw [pk_us]
      · rw [pk_un (by omega)]; exact hq8 q e
  · have hlt : k < f.1.2.2.length := Nat.lt_of_not_le fun q => absurd (nI_le q (by omega)) c1
    refine lv_aload_n hx hb d_Mo_copy_60 rfl (lv_at hl 1 rfl) ?_
    refine x_get (ci := 8) (T := T_Mo) hx hb htb u_Mo hown hK ho rfl 9 (by decide) (htb _ mw_469) (fun _ h9 => h9) (v := .ref (b + 7)) rfl d_Mo_copy_61 ?_
    refine lv_bipush (v := 100) hx hb d_Mo_copy_64 (by decide) ?_
    refine lv_iload_n hx hb d_Mo_copy_66 rfl (lv_at hl 3 rfl) ?_
    refine lv_imul hx hb d_Mo_copy_67 ?_
    refine lv_iload_n hx hb d_Mo_copy_68 rfl (lv_at hl 0 rfl) ?_
    refine lv_iadd hx hb d_Mo_copy_69 ?_
    refine x_top (y := nI (100 * j + k)) (by rw [show (100 : Int32) = nI 100 from rfl, pk_mul, nI_add]) ?_
    refine lv_aload_n hx hb d_Mo_copy_70 rfl (lv_at hl 1 rfl) ?_
    refine x_get (ci := 8) (T := T_Mo) hx hb htb u_Mo hown hK ho rfl 9 (by decide) (htb _ mw_469) (fun _ h9 => h9) (v := .ref (b + 7)) rfl d_Mo_copy_71 ?_
    refine lv_bipush (v := 100) hx hb d_Mo_copy_74 (by decide) ?_
    refine lv_iload_n hx hb d_Mo_copy_76 rfl (lv_at hl 2 rfl) ?_
    refine lv_imul hx hb d_Mo_copy_77 ?_
    refine lv_iload_n hx hb d_Mo_copy_78 rfl (lv_at hl 0 rfl) ?_
    refine lv_iadd hx hb d_Mo_copy_79 ?_
    refine x_top (y := nI (100 * i + k)) (by rw [show (100 : Int32) = nI 100 from rfl, pk_mul, nI_add]) ?_
    refine m_bld hx hb hK hR 7 (by decide) (by decide) rfl (i := 100 * i + k) (show _ < 32000 by omega) d_Mo_copy_80 ?_
    refine x_top (y := sb_b (f.1.2.2.getD k 0)) (f5 k hlt) ?_
    refine m_bst hx hb hK ho hM hL hR 7 (by decide) (by decide) rfl (i := 100 * j + k) (show _ < 32000 by omega) (m_nar _) d_Mo_copy_81 (fun H7 locs ho hM hL hR => ?_)
    obtain ⟨G7, eG7⟩ : ∃ G9 : m_G, G9 = m_up G5 7 (upd (G5 7) (100 * j + k) (sb_b (f.1.2.2.getD k 0))) := ⟨_, rfl⟩
    rw [← eG7] at hR
    have uG7 : ∀ j, j ≠ 7 → G7 j = G5 j := fun j h => by rw [eG7]; exact m_up_ne _ _ h
    have sG7 : G7 7 = upd (G5 7) (100 * j + k) (sb_b (f.1.2.2.getD k 0)) := by rw [eG7]; exact m_up_self _ _ _
    have hfr7 : m_fr j G5 G7 := by rw [eG7]; exact m_fr.p (by omega)
    refine lv_iinc (v := nI (k + 1)) (lv' := [(3, .int (nI (k + 1))), (0, .ref b), (1, .int (nI i)), (2, .int (nI j))]) hx hb d_Mo_copy_82 hl (k := 0) rfl (nI_1 k) (by decide) rfl (fun ls hl => ?_)
    refine lv_goto (tgt := 50) hx hb d_Mo_copy_85 (by decide) ?_
    refine ih (k + 1, G7, H7, locs, ls) ⟨hlt, ho, hR, hM, hL, hfr.trans hfr7, ⟨⟨(congrFun (uG7 _ (by decide)) _).trans hjj.1.1, (congrFun (uG7 _ (by decide)) _).trans hjj.1.2⟩, (congrFun (uG7 _ (by decide)) _).trans hjj.2.1, (congrFun (uG7 _ (by decide)) _).trans hjj.2.2⟩, fun q hq => ?_, (lv_sub hl [0, 1, 2, 3] rfl)⟩ (by show f.1.2.2.length - (k + 1) < f.1.2.2.length - k; omega)
    have hq : q < k + 1 := hq
    show G7 7 (100 * j + q) = _
    rw [eG7, m_up_self]
    rcases Nat.eq_or_lt_of_le (Nat.le_of_lt_succ hq) with e | e
    · subst e; rw [pk_us]
    · rw [pk_un (by omega)]; exact hp q e
set_option maxHeartbeats 4000000 in
set_option maxRecDepth 100000 in
theorem c_Mo_name (l : Launch) {D : va_G} {A : Nat → ClassId} {H0 : Heap} {b : Nat} {v0 v1 v3 v4 v5 v6 v7 : Int32} {G : m_G} {ps : List Nat} (ho : m_O D b v0 v1 (nI ps.length) v3 v4 v5 v6 v7 H0) (hR : m_R D A b G H0) {j : Nat} (x y : Int32) (hj : j < 320) (hp1 : ps.length ≤ 100) (hp2 : ∀ k, k < ps.length → G 2 k = sb_b (ps.getD k 0)) (hp3 : ∀ u ∈ ps, u < 256) : Met l y_Mo_name w_Mo_name { frames := 0, cells := 0, slots := 0, locals := 0 } (x_Pc D A [.ref b, .int (nI j), .int x, .int y] H0) (x_Q none (fun H1 => ∃ G1 : m_G, m_O D b v0 v1 (nI ps.length) v3 v4 v5 v6 v7 H1 ∧ m_R D A b G1 H1 ∧ m_K b H0 H1 ∧ m_e G1 j ((x, y, ps), []) ∧ m_fr j G G1)) 0 0 (m_fq b) := by
  refine Met.ofW (cc := prog_10_method_6_code) (maxL := 5) (ret := none) (by decide) rfl ?_
  intro p e s m args below meth c s₁ B hml hv
  obtain ⟨rfl, hH, hK, hN⟩ := hv
  obtain ⟨hx, hb, hr, htb, hown, hlocks⟩ := x_start (wd := Cond.code y_Mo_name prog_10_method_6_code 5 none) B
  have hl := lv_entry ([.ref b, .int (nI j), .int x, .int y]) (n := 5) (Nat.le_of_ble_eq_true rfl)
  rw [lg_entry_eq]
  generalize (lg_sl ([.ref b, .int (nI j), .int x, .int y]) ++ List.replicate (5 - (lg_sl ([.ref b, .int (nI j), .int x, .int y])).length) Slot.unset).toArray = ls at hl ⊢
  have hl : lv_has ls 5 [(0, .ref b), (1, .int (nI j)), (2, .int x), (3, .int y)] := hl
  rw [hH]
  have hM : m_K b H0 H0 := m_K.refl
  have hL : ∀ q ∈ ([] : List Loc), m_fq b q.base := fun q hq => by cases hq
  refine lv_aload_n hx hb d_Mo_name_0 rfl (lv_at hl 0 rfl) ?_
  refine x_get (ci := 8) (T := T_Mo) hx hb htb u_Mo hown hK ho rfl 5 (by decide) (htb _ mw_465) (fun _ h9 => h9) (v := .ref (b + 3)) rfl d_Mo_name_1 ?_
  refine lv_iload_n hx hb d_Mo_name_4 rfl (lv_at hl 1 rfl) ?_
  refine lv_iload_n hx hb d_Mo_name_5 rfl (lv_at hl 2 rfl) ?_
  refine m_ist hx hb hK ho hM hL hR 3 (by decide) (by decide) rfl (i := j) (show _ < 320 by omega) d_Mo_name_6 (fun Ha0 locs ho hM hL hR => ?_)
  obtain ⟨G1, eG1⟩ : ∃ G9 : m_G, G9 = m_up G 3 (upd (G 3) j x) := ⟨_, rfl⟩
  rw [← eG1] at hR
  have uG1 : ∀ j, j ≠ 3 → G1 j = G j := fun j h => by rw [eG1]; exact m_up_ne _ _ h
  have sG1 : G1 3 = upd (G 3) j x := by rw [eG1]; exact m_up_self _ _ _
  refine lv_aload_n hx hb d_Mo_name_7 rfl (lv_at hl 0 rfl) ?_
  refine x_get (ci := 8) (T := T_Mo) hx hb htb u_Mo hown hK ho rfl 6 (by decide) (htb _ mw_466) (fun _ h9 => h9) (v := .ref (b + 4)) rfl d_Mo_name_8 ?_
  refine lv_iload_n hx hb d_Mo_name_11 rfl (lv_at hl 1 rfl) ?_
  refine lv_iload_n hx hb d_Mo_name_12 rfl (lv_at hl 3 rfl) ?_
  refine m_ist hx hb hK ho hM hL hR 4 (by decide) (by decide) rfl (i := j) (show _ < 320 by omega) d_Mo_name_13 (fun Ha1 locs ho hM hL hR => ?_)
  obtain ⟨G2, eG2⟩ : ∃ G9 : m_G, G9 = m_up G1 4 (upd (G1 4) j y) := ⟨_, rfl⟩
  rw [← eG2] at hR
  have uG2 : ∀ j, j ≠ 4 → G2 j = G1 j := fun j h => by rw [eG2]; exact m_up_ne _ _ h
  have sG2 : G2 4 = upd (G1 4) j y := by rw [eG2]; exact m_up_self _ _ _
  refine lv_aload_n hx hb d_Mo_name_14 rfl (lv_at hl 0 rfl) ?_
  refine x_get (ci := 8) (T := T_Mo) hx hb htb u_Mo hown hK ho rfl 7 (by decide) (htb _ mw_467) (fun _ h9 => h9) (v := .ref (b + 5)) rfl d_Mo_name_15 ?_
  refine lv_iload_n hx hb d_Mo_name_18 rfl (lv_at hl 1 rfl) ?_
  refine lv_aload_n hx hb d_Mo_name_19 rfl (lv_at hl 0 rfl) ?_
  refine x_get (ci := 8) (T := T_Mo) hx hb htb u_Mo hown hK ho rfl 4 (by decide) (htb _ mw_464) (fun _ h9 => h9) (v := .int (nI ps.length)) rfl d_Mo_name_20 ?_
  refine m_ist hx hb hK ho hM hL hR 5 (by decide) (by decide) rfl (i := j) (show _ < 320 by omega) d_Mo_name_23 (fun Ha2 locs ho hM hL hR => ?_)
  obtain ⟨G3, eG3⟩ : ∃ G9 : m_G, G9 = m_up G2 5 (upd (G2 5) j (nI ps.length)) := ⟨_, rfl⟩
  rw [← eG3] at hR
  have uG3 : ∀ j, j ≠ 5 → G3 j = G2 j := fun j h => by rw [eG3]; exact m_up_ne _ _ h
  have sG3 : G3 5 = upd (G2 5) j (nI ps.length) := by rw [eG3]; exact m_up_self _ _ _
  have hfr : m_fr j G G3 := by
    rw [eG3]
    refine m_fr.trans ?_ (m_fr.set (by decide) (by decide))
    rw [eG2]
    refine m_fr.trans ?_ (m_fr.set (by decide) (by decide))
    rw [eG1]
    exact m_fr.set (by decide) (by decide)
  have hj4 : (G3 3 j = x ∧ G3 4 j = y) ∧ G3 5 j = nI ps.length := by
    refine ⟨⟨?_, ?_⟩, ?_⟩
    · rw [eG3, m_up_ne _ _ (by decide), eG2, m_up_ne _ _ (by decide), eG1, m_up_self, pk_us]
    · rw [eG3, m_up_ne _ _ (by decide), eG2, m_up_self, pk_us]
    · rw [eG3, m_up_self, pk_us]
  clear uG1 sG1 uG2 sG2 uG3 sG3 eG1 eG2 eG3
  refine lv_iconst (v := 0) hx hb d_Mo_name_24 (by decide) ?_
  refine lv_istore (lv' := [(4, .int 0), (0, .ref b), (1, .int (nI j)), (2, .int x), (3, .int y)]) hx hb d_Mo_name_25 hl (by decide) rfl (fun ls hl => ?_)
  refine x_loop (σ := Nat × m_G × Heap × List Loc × Array Slot) (fun z => F0 m 27 z.2.2.2.2 []) (fun z => z.2.2.1) (fun z => z.2.2.2.1) (fun z => z.1 ≤ ps.length ∧ m_O D b v0 v1 (nI ps.length) v3 v4 v5 v6 v7 z.2.2.1 ∧ m_R D A b z.2.1 z.2.2.1 ∧ m_K b H0 z.2.2.1 ∧ (∀ q ∈ z.2.2.2.1, m_fq b q.base) ∧ m_fr j G z.2.1 ∧ ((z.2.1 3 j = x ∧ z.2.1 4 j = y) ∧ z.2.1 5 j = nI ps.length) ∧ (∀ q, q < z.1 → z.2.1 7 (100 * j + q) = sb_b (ps.getD q 0)) ∧ lv_has z.2.2.2.2 5 [(4, .int (nI z.1)), (0, .ref b), (1, .int (nI j)), (2, .int x), (3, .int y)]) (fun z => ps.length - z.1) (s0 := (0, G3, Ha2, _, ls)) ⟨Nat.zero_le _, ho, hR, hM, hL, hfr, hj4, (fun q hq => absurd hq (Nat.not_lt_zero q)), (lv_sub hl [0, 1, 2, 3, 4] rfl)⟩ ?_
  clear hR ho hM hL hl
  rintro ⟨k, G5, H, locs, ls⟩ ⟨hk, ho, hR, hM, hL, hfr, hjj, hp, hl⟩ ih
  dsimp only at hk ho hR hM hL hfr hjj hp hl ih ⊢
  refine lv_iload hx hb d_Mo_name_27 (lv_at hl 0 rfl) ?_
  refine lv_aload_n hx hb d_Mo_name_29 rfl (lv_at hl 1 rfl) ?_
  refine x_get (ci := 8) (T := T_Mo) hx hb htb u_Mo hown hK ho rfl 4 (by decide) (htb _ mw_464) (fun _ h9 => h9) (v := .int (nI ps.length)) rfl d_Mo_name_30 ?_
  refine lv_icmp_ge (tgt := 61) hx hb d_Mo_name_33 (by decide) (fun c1 => ?_) (fun c1 => ?_)
  · have e1 : k = ps.length := Nat.le_antisymm hk (Nat.le_of_not_lt fun q => absurd c1 (nI_ge q (by omega)))
    subst e1
    clear ih
    refine lv_aload_n hx hb d_Mo_name_61 rfl (lv_at hl 1 rfl) ?_
    refine x_get (ci := 8) (T := T_Mo) hx hb htb u_Mo hown hK ho rfl 8 (by decide) (htb _ mw_468) (fun _ h9 => h9) (v := .ref (b + 6)) rfl d_Mo_name_62 ?_
    refine lv_iload_n hx hb d_Mo_name_65 rfl (lv_at hl 2 rfl) ?_
    refine lv_iconst (v := 0) hx hb d_Mo_name_66 (by decide) ?_
    refine m_ist hx hb hK ho hM hL hR 6 (by decide) (by decide) rfl (i := j) (show _ < 320 by omega) d_Mo_name_67 (fun H8 locs ho hM hL hR => ?_)
    obtain ⟨G8, eG8⟩ : ∃ G9 : m_G, G9 = m_up G5 6 (upd (G5 6) j 0) := ⟨_, rfl⟩
    rw [← eG8] at hR
    have uG8 : ∀ j, j ≠ 6 → G8 j = G5 j := fun j h => by rw [eG8]; exact m_up_ne _ _ h
    have sG8 : G8 6 = upd (G5 6) j 0 := by rw [eG8]; exact m_up_self _ _ _
    have hfr8 : m_fr j G5 G8 := by rw [eG8]; exact m_fr.set (by decide) (by decide)
    exact x_vret hx hb hr hlocks ⟨G8, ho, hR, hM, ⟨⟨(congrFun (uG8 _ (by decide)) _).trans hjj.1.1, (congrFun (uG8 _ (by decide)) _).trans hjj.1.2⟩, ⟨(congrFun (uG8 _ (by decide)) _).trans hjj.2, hp1, (fun q hq => (congrFun (uG8 _ (by decide)) _).trans (hp q hq)), hp3⟩, by rw [eG8, m_up_self, pk_us]; rfl, Nat.zero_le _, (fun q hq => absurd hq (Nat.not_lt_zero q)), fun u hu => by cases hu⟩, hfr.trans hfr8⟩ hL (Nat.le_refl _) (Nat.le_refl _) d_Mo_name_68
  · have hlt : k < ps.length := Nat.lt_of_not_le fun q => absurd (nI_le q (by omega)) c1
    refine lv_aload_n hx hb d_Mo_name_36 rfl (lv_at hl 1 rfl) ?_
    refine x_get (ci := 8) (T := T_Mo) hx hb htb u_Mo hown hK ho rfl 9 (by decide) (htb _ mw_469) (fun _ h9 => h9) (v := .ref (b + 7)) rfl d_Mo_name_37 ?_
    refine lv_bipush (v := 100) hx hb d_Mo_name_40 (by decide) ?_
    refine lv_iload_n hx hb d_Mo_name_42 rfl (lv_at hl 2 rfl) ?_
    refine lv_imul hx hb d_Mo_name_43 ?_
    refine lv_iload hx hb d_Mo_name_44 (lv_at hl 0 rfl) ?_
    refine lv_iadd hx hb d_Mo_name_46 ?_
    refine x_top (y := nI (100 * j + k)) (by rw [show (100 : Int32) = nI 100 from rfl, pk_mul, nI_add]) ?_
    refine lv_aload_n hx hb d_Mo_name_47 rfl (lv_at hl 1 rfl) ?_
    refine x_get (ci := 8) (T := T_Mo) hx hb htb u_Mo hown hK ho rfl 2 (by decide) (htb _ mw_462) (fun _ h9 => h9) (v := .ref (b + 2)) rfl d_Mo_name_48 ?_
    refine lv_iload hx hb d_Mo_name_51 (lv_at hl 0 rfl) ?_
    refine m_bld hx hb hK hR 2 (by decide) (by decide) rfl (i := k) (show _ < 100 by omega) d_Mo_name_53 ?_
    refine x_top (y := sb_b (ps.getD k 0)) ((congrFun (hfr.2 2 (by decide)) k).trans (hp2 k hlt)) ?_
    refine m_bst hx hb hK ho hM hL hR 7 (by decide) (by decide) rfl (i := 100 * j + k) (show _ < 32000 by omega) (m_nar _) d_Mo_name_54 (fun H7 locs ho hM hL hR => ?_)
    obtain ⟨G7, eG7⟩ : ∃ G9 : m_G, G9 = m_up G5 7 (upd (G5 7) (100 * j + k) (sb_b (ps.getD k 0))) := ⟨_, rfl⟩
    rw [← eG7] at hR
    have uG7 : ∀ j, j ≠ 7 → G7 j = G5 j := fun j h => by rw [eG7]; exact m_up_ne _ _ h
    have sG7 : G7 7 = upd (G5 7) (100 * j + k) (sb_b (ps.getD k 0)) := by rw [eG7]; exact m_up_self _ _ _
    have hfr7 : m_fr j G5 G7 := by rw [eG7]; exact m_fr.p (by omega)
    refine lv_iinc (v := nI (k + 1)) (lv' := [(4, .int (nI (k + 1))), (0, .ref b), (1, .int (nI j)), (2, .int x), (3, .int y)]) hx hb d_Mo_name_55 hl (k := 0) rfl (nI_1 k) (by decide) rfl (fun ls hl => ?_)
    refine lv_goto (tgt := 27) hx hb d_Mo_name_58 (by decide) ?_
    refine ih (k + 1, G7, H7, locs, ls) ⟨hlt, ho, hR, hM, hL, hfr.trans hfr7, ⟨⟨(congrFun (uG7 _ (by decide)) _).trans hjj.1.1, (congrFun (uG7 _ (by decide)) _).trans hjj.1.2⟩, (congrFun (uG7 _ (by decide)) _).trans hjj.2⟩, fun q hq => ?_, (lv_sub hl [0, 1, 2, 3, 4] rfl)⟩ (by show ps.length - (k + 1) < ps.length - k; omega)
    have hq : q < k + 1 := hq
    show G7 7 (100 * j + q) = _
    rw [eG7, m_up_self]
    rcases Nat.eq_or_lt_of_le (Nat.le_of_lt_succ hq) with e | e
    · subst e; rw [pk_us]
    · rw [pk_un (by omega)]; exact hp q e
end
section
/-! names: equal where the order says 0 -/
theorem x_sub0 {x y : Int32} (h : x - y = 0) : x = y := by
  have h2 := congrArg (fun z => z + y) h
  simpa using h2
theorem x_subs (x : Int32) : x - x = 0 := by simp
def g_okp (us : List Nat) : Prop := us.length ≤ 400 ∧ ∀ u ∈ us, u < 256
theorem g_po0 : ∀ {us vs : List Nat}, g_okp us → g_okp vs → (g_po us vs = 0 ↔ us = vs)
  | [], vs, _, h2 => by
    show nI 0 - nI vs.length = 0 ↔ _
    constructor
    · intro h
      have h3 := (nI_eq (by decide) (by have := h2.1; omega)).mp (x_sub0 h)
      exact (List.eq_nil_of_length_eq_zero h3.symm).symm
    · intro h
      rw [← h]
      rfl
  | x :: a, [], h1, _ => by
    show nI (a.length + 1) - nI 0 = 0 ↔ _
    constructor
    · intro h
      have h3 := (nI_eq (by have := h1.1; rw [List.length_cons] at this; omega) (by decide)).mp (x_sub0 h)
      omega
    · intro h
      cases h
  | x :: a, y :: b, h1, h2 => by
    have hx := h1.2 x List.mem_cons_self
    have hy := h2.2 y List.mem_cons_self
    have ih := @g_po0 a b ⟨by have := h1.1; rw [List.length_cons] at this; omega, fun u hu => h1.2 u (List.mem_cons_of_mem _ hu)⟩ ⟨by have := h2.1; rw [List.length_cons] at this; omega, fun u hu => h2.2 u (List.mem_cons_of_mem _ hu)⟩
    show (if x = y then g_po a b else if x = 47 then -1 else if y = 47 then 1 else nI x - nI y) = 0 ↔ _
    by_cases e : x = y
    · rw [if_pos e, ih, e]
      constructor
      · intro h; rw [h]
      · intro h; injection h
    · rw [if_neg e]
      refine ⟨fun h => ?_, fun h => absurd (by injection h) e⟩
      split at h
      · exact absurd h (by decide)
      · split at h
        · exact absurd h (by decide)
        · exact absurd ((nI_eq (by omega) (by omega)).mp (x_sub0 h)) e
theorem g_cmp0 {x y : Int32} : g_cmp x y = 0 ↔ x = y := by
  unfold g_cmp
  by_cases h : x < y
  · rw [if_pos h]
    exact ⟨fun h => absurd h (by decide), fun e => absurd h (by rw [e]; exact Int32.lt_irrefl)⟩
  · rw [if_neg h]
    by_cases e : x = y
    · rw [if_pos e]; exact ⟨fun _ => e, fun _ => rfl⟩
    · rw [if_neg e]; exact ⟨fun h => absurd h (by decide), fun h => absurd h e⟩
theorem g_no0 {a b : g_N} (ha : g_okp a.2.2) (hb : g_okp b.2.2) : g_no a b = 0 ↔ a = b := by
  obtain ⟨a1, a2, a3⟩ := a
  obtain ⟨b1, b2, b3⟩ := b
  unfold g_no
  dsimp only at *
  by_cases e1 : a1 = b1
  · rw [if_pos e1]
    by_cases e2 : a2 = b2
    · rw [if_pos e2, g_po0 ha hb, e1, e2]
      constructor
      · intro h; rw [h]
      · intro h; injection h with h h2; injection h2
    · rw [if_neg e2, g_cmp0]
      exact ⟨fun h => absurd h e2, fun h => by injection h with h h2; injection h2⟩
  · rw [if_neg e1, g_cmp0]
    exact ⟨fun h => absurd h e1, fun h => by injection h⟩
/-- files from entry o on -/
def m_L (G : m_G) (o : Nat) (fs : List g_F) : Prop := ∀ (i : Nat) (f : g_F), fs[i]? = some f → m_e G (i + o) f
theorem m_e.okp {G : m_G} {e : Nat} {f : g_F} (h : m_e G e f) : g_okp f.1.2.2 := ⟨by have := h.2.1.2.1; omega, h.2.1.2.2.2⟩
theorem sb_inj {u v : Nat} (hu : u < 256) (hv : v < 256) (h : sb_b u = sb_b v) : u = v := by
  have h1 := (sb_byte u hu).1
  have h2 := (sb_byte v hv).1
  rw [h, h2] at h1
  exact ((nI_eq (by omega) (by omega)).mp h1).symm
theorem m_tk {us : List Nat} {k : Nat} (h : k < us.length) : us.take (k + 1) = us.take k ++ [us.getD k 0] := by
  rw [List.take_add_one, List.getD_eq_getElem?_getD, List.getElem?_eq_getElem h]
  rfl
theorem m_tk2 {us vs : List Nat} {k : Nat} (hu : k < us.length) (hv : k < vs.length) : us.take (k + 1) = vs.take (k + 1) ↔ (us.take k = vs.take k ∧ us.getD k 0 = vs.getD k 0) := by
  rw [m_tk hu, m_tk hv]
  constructor
  · intro h
    have := List.append_inj' h rfl
    exact ⟨this.1, by injection this.2⟩
  · intro h
    rw [h.1, h.2]
theorem m_end {us vs : List Nat} {k : Nat} (hk : k = us.length) (h : us.length = vs.length ∧ us.take k = vs.take k) : us = vs := by
  have h2 := h.2
  rw [hk, List.take_length, h.1, List.take_length] at h2
  exact h2

set_option maxHeartbeats 4000000 in
set_option maxRecDepth 100000 in
theorem c_Mo_hasPath (l : Launch) {D : va_G} {A : Nat → ClassId} {H0 : Heap} {b : Nat} {v0 v1 v2 v3 v4 v5 v6 v7 : Int32} {G : m_G} (ho : m_O D b v0 v1 v2 v3 v4 v5 v6 v7 H0) (hR : m_R D A b G H0) {i j : Nat} {f g : g_F} (hi : i < 320) (hj : j < 320) (hf : m_e G i f) (hg : m_e G j g) : Met l y_Mo_hasPath w_Mo_hasPath { frames := 0, cells := 0, slots := 0, locals := 0 } (x_Pc D A [.ref b, .int (nI i), .int (nI j)] H0) (x_Q (some (.int (if f.1.2.2 = g.1.2.2 then 1 else 0))) (fun H1 => H1 = H0)) 0 0 (fun _ => False) := by
  refine Met.ofW (cc := prog_10_method_7_code) (maxL := 5) (ret := (some .boolean)) (by decide) rfl ?_
  intro p e s m args below meth c s₁ B hml hv
  obtain ⟨rfl, hH, hK, hN⟩ := hv
  obtain ⟨hx, hb, hr, htb, hown, hlocks⟩ := x_start (wd := Cond.code y_Mo_hasPath prog_10_method_7_code 5 (some .boolean)) B
  have hl := lv_entry ([.ref b, .int (nI i), .int (nI j)]) (n := 5) (Nat.le_of_ble_eq_true rfl)
  rw [lg_entry_eq]
  generalize (lg_sl ([.ref b, .int (nI i), .int (nI j)]) ++ List.replicate (5 - (lg_sl ([.ref b, .int (nI i), .int (nI j)])).length) Slot.unset).toArray = ls at hl ⊢
  have hl : lv_has ls 5 [(0, .ref b), (1, .int (nI i)), (2, .int (nI j))] := hl
  rw [hH]
  obtain ⟨-, ⟨f3, f4, f5, f6⟩, -⟩ := hf
  obtain ⟨-, ⟨g3, g4, g5, g6⟩, -⟩ := hg
  generalize f.1.2.2 = us at *
  generalize g.1.2.2 = vs at *
  have rest : ∀ ls, lv_has ls 5 [(3, .int (if us.length = vs.length ∧ us.take 0 = vs.take 0 then 1 else 0)), (0, .ref b), (1, .int (nI i)), (2, .int (nI j))] → W p l e (headSpec w_Mo_hasPath { frames := 0, cells := 0, slots := 0, locals := 0 }).room s m [Value.ref b, Value.int (nI i), Value.int (nI j)].toArray below meth c H0 [] 0 0 (MQ below (x_Q (some (.int (if us = vs then 1 else 0))) (fun H1 => H1 = H0)) [Value.ref b, Value.int (nI i), Value.int (nI j)].toArray s 0 0 (fun _ => False)) (F0 m 21 ls []) := by
    intro ls hl
    refine lv_iconst (v := 0) hx hb d_Mo_hasPath_21 (by decide) ?_
    refine lv_istore (lv' := [(4, .int 0), (3, .int (if us.length = vs.length ∧ us.take 0 = vs.take 0 then 1 else 0)), (0, .ref b), (1, .int (nI i)), (2, .int (nI j))]) hx hb d_Mo_hasPath_22 hl (by decide) rfl (fun ls hl => ?_)
    refine x_loop (σ := Nat × Array Slot) (fun z => F0 m 24 z.2 []) (fun _ => H0) (fun _ => []) (fun z => z.1 ≤ us.length ∧ lv_has z.2 5 [(4, .int (nI z.1)), (3, .int (if us.length = vs.length ∧ us.take z.1 = vs.take z.1 then 1 else 0)), (0, .ref b), (1, .int (nI i)), (2, .int (nI j))]) (fun z => us.length - z.1) (s0 := (0, ls)) ⟨Nat.zero_le _, (lv_sub hl [0, 1, 2, 3, 4] rfl)⟩ ?_
    clear hl
    rintro ⟨k, ls⟩ ⟨hk, hl⟩ ih
    dsimp only at hk  hl ih ⊢
    refine lv_iload hx hb d_Mo_hasPath_24 (lv_at hl 0 rfl) ?_
    refine lv_aload_n hx hb d_Mo_hasPath_26 rfl (lv_at hl 2 rfl) ?_
    refine x_get (ci := 8) (T := T_Mo) hx hb htb u_Mo hown hK ho rfl 7 (by decide) (htb _ mw_467) (fun _ h9 => h9) (v := .ref (b + 5)) rfl d_Mo_hasPath_27 ?_
    refine lv_iload_n hx hb d_Mo_hasPath_30 rfl (lv_at hl 3 rfl) ?_
    refine m_ild hx hb hK hR 5 (by decide) (by decide) rfl (i := i) (show _ < 320 by omega) d_Mo_hasPath_31 ?_
    refine x_top (y := nI us.length) (f3) ?_
    refine lv_icmp_ge (tgt := 78) hx hb d_Mo_hasPath_32 (by decide) (fun c1 => ?_) (fun c1 => ?_)
    · have e : k = us.length := Nat.le_antisymm hk (Nat.le_of_not_lt fun q => absurd c1 (nI_ge q (by omega)))
      have e2 : (us.length = vs.length ∧ us.take k = vs.take k) ↔ us = vs := ⟨fun q => m_end e q, fun q => by rw [q]; exact ⟨rfl, rfl⟩⟩
      refine lv_iload_n hx hb d_Mo_hasPath_78 rfl (lv_at hl 1 rfl) ?_
      exact x_zret hx hb hr hlocks (by simp only [e2]) (by split <;> decide) rfl (fun q hq => by cases hq) (Nat.le_refl _) (Nat.le_refl _) d_Mo_hasPath_79
    · have hlt : k < us.length := Nat.lt_of_not_le fun q => absurd (nI_le q (by omega)) c1
      refine lv_iload_n hx hb d_Mo_hasPath_35 rfl (lv_at hl 1 rfl) ?_
      refine lv_if_eq (tgt := 78) hx hb d_Mo_hasPath_36 (by decide) (fun c2 => ?_) (fun c2 => ?_)
      · have e2 : ¬ (us.length = vs.length ∧ us.take k = vs.take k) := fun q => by rw [if_pos q] at c2; exact absurd c2 (by decide)
        have e3 : ¬ us = vs := fun q => e2 (by rw [q]; exact ⟨rfl, rfl⟩)
        refine lv_iload_n hx hb d_Mo_hasPath_78 rfl (lv_at hl 1 rfl) ?_
        exact x_zret hx hb hr hlocks (by rw [if_neg e2, if_neg e3]) (by split <;> decide) rfl (fun q hq => by cases hq) (Nat.le_refl _) (Nat.le_refl _) d_Mo_hasPath_79
      · have e2 : us.length = vs.length ∧ us.take k = vs.take k := Decidable.byContradiction fun q => c2 (if_neg q)
        refine lv_aload_n hx hb d_Mo_hasPath_39 rfl (lv_at hl 2 rfl) ?_
        refine x_get (ci := 8) (T := T_Mo) hx hb htb u_Mo hown hK ho rfl 9 (by decide) (htb _ mw_469) (fun _ h9 => h9) (v := .ref (b + 7)) rfl d_Mo_hasPath_40 ?_
        refine lv_bipush (v := 100) hx hb d_Mo_hasPath_43 (by decide) ?_
        refine lv_iload_n hx hb d_Mo_hasPath_45 rfl (lv_at hl 3 rfl) ?_
        refine lv_imul hx hb d_Mo_hasPath_46 ?_
        refine lv_iload hx hb d_Mo_hasPath_47 (lv_at hl 0 rfl) ?_
        refine lv_iadd hx hb d_Mo_hasPath_49 ?_
        refine x_top (y := nI (100 * i + k)) (by rw [show (100 : Int32) = nI 100 from rfl, pk_mul, nI_add]) ?_
        refine m_bld hx hb hK hR 7 (by decide) (by decide) rfl (i := 100 * i + k) (show _ < 32000 by omega) d_Mo_hasPath_50 ?_
        refine x_top (y := sb_b (us.getD k 0)) (f5 k hlt) ?_
        refine lv_aload_n hx hb d_Mo_hasPath_51 rfl (lv_at hl 2 rfl) ?_
        refine x_get (ci := 8) (T := T_Mo) hx hb htb u_Mo hown hK ho rfl 9 (by decide) (htb _ mw_469) (fun _ h9 => h9) (v := .ref (b + 7)) rfl d_Mo_hasPath_52 ?_
        refine lv_bipush (v := 100) hx hb d_Mo_hasPath_55 (by decide) ?_
        refine lv_iload_n hx hb d_Mo_hasPath_57 rfl (lv_at hl 4 rfl) ?_
        refine lv_imul hx hb d_Mo_hasPath_58 ?_
        refine lv_iload hx hb d_Mo_hasPath_59 (lv_at hl 0 rfl) ?_
        refine lv_iadd hx hb d_Mo_hasPath_61 ?_
        refine x_top (y := nI (100 * j + k)) (by rw [show (100 : Int32) = nI 100 from rfl, pk_mul, nI_add]) ?_
        refine m_bld hx hb hK hR 7 (by decide) (by decide) rfl (i := 100 * j + k) (show _ < 32000 by omega) d_Mo_hasPath_62 ?_
        refine x_top (y := sb_b (vs.getD k 0)) (g5 k (by omega)) ?_
        have e4 := m_tk2 hlt (vs := vs) (by omega)
        refine lv_icmp_ne (tgt := 70) hx hb d_Mo_hasPath_63 (by decide) (fun c3 => ?_) (fun c3 => ?_)
        · refine lv_iconst (v := 0) hx hb d_Mo_hasPath_70 (by decide) ?_
          refine x_top (y := if us.length = vs.length ∧ us.take (k + 1) = vs.take (k + 1) then 1 else 0) ((if_neg (fun q => c3 (congrArg sb_b (e4.mp q.2).2))).symm) ?_
          refine lv_istore_n (lv' := [(3, .int (if us.length = vs.length ∧ us.take (k + 1) = vs.take (k + 1) then 1 else 0)), (4, .int (nI k)), (0, .ref b), (1, .int (nI i)), (2, .int (nI j))]) hx hb d_Mo_hasPath_71 rfl hl (by decide) rfl (fun ls hl => ?_)
          refine lv_iinc (v := nI (k + 1)) (lv' := [(4, .int (nI (k + 1))), (3, .int (if us.length = vs.length ∧ us.take (k + 1) = vs.take (k + 1) then 1 else 0)), (0, .ref b), (1, .int (nI i)), (2, .int (nI j))]) hx hb d_Mo_hasPath_72 hl (k := 1) rfl (nI_1 k) (by decide) rfl (fun ls hl => ?_)
          refine lv_goto (tgt := 24) hx hb d_Mo_hasPath_75 (by decide) ?_
          exact ih (k + 1, ls) ⟨hlt, (lv_sub hl [0, 1, 2, 3, 4] rfl)⟩ (by show us.length - (k + 1) < us.length - k; omega)
        · refine lv_iconst (v := 1) hx hb d_Mo_hasPath_66 (by decide) ?_
          refine lv_goto (tgt := 71) hx hb d_Mo_hasPath_67 (by decide) ?_
          refine x_top (y := if us.length = vs.length ∧ us.take (k + 1) = vs.take (k + 1) then 1 else 0) ((if_pos ⟨e2.1, e4.mpr ⟨e2.2, sb_inj (g_u f6 k) (g_u g6 k) c3⟩⟩).symm) ?_
          refine lv_istore_n (lv' := [(3, .int (if us.length = vs.length ∧ us.take (k + 1) = vs.take (k + 1) then 1 else 0)), (4, .int (nI k)), (0, .ref b), (1, .int (nI i)), (2, .int (nI j))]) hx hb d_Mo_hasPath_71 rfl hl (by decide) rfl (fun ls hl => ?_)
          refine lv_iinc (v := nI (k + 1)) (lv' := [(4, .int (nI (k + 1))), (3, .int (if us.length = vs.length ∧ us.take (k + 1) = vs.take (k + 1) then 1 else 0)), (0, .ref b), (1, .int (nI i)), (2, .int (nI j))]) hx hb d_Mo_hasPath_72 hl (k := 1) rfl (nI_1 k) (by decide) rfl (fun ls hl => ?_)
          refine lv_goto (tgt := 24) hx hb d_Mo_hasPath_75 (by decide) ?_
          exact ih (k + 1, ls) ⟨hlt, (lv_sub hl [0, 1, 2, 3, 4] rfl)⟩ (by show us.length - (k + 1) < us.length - k; omega)
  refine lv_aload_n hx hb d_Mo_hasPath_0 rfl (lv_at hl 0 rfl) ?_
  refine x_get (ci := 8) (T := T_Mo) hx hb htb u_Mo hown hK ho rfl 7 (by decide) (htb _ mw_467) (fun _ h9 => h9) (v := .ref (b + 5)) rfl d_Mo_hasPath_1 ?_
  refine lv_iload_n hx hb d_Mo_hasPath_4 rfl (lv_at hl 1 rfl) ?_
  refine m_ild hx hb hK hR 5 (by decide) (by decide) rfl (i := i) (show _ < 320 by omega) d_Mo_hasPath_5 ?_
  refine x_top (y := nI us.length) (f3) ?_
  refine lv_aload_n hx hb d_Mo_hasPath_6 rfl (lv_at hl 0 rfl) ?_
  refine x_get (ci := 8) (T := T_Mo) hx hb htb u_Mo hown hK ho rfl 7 (by decide) (htb _ mw_467) (fun _ h9 => h9) (v := .ref (b + 5)) rfl d_Mo_hasPath_7 ?_
  refine lv_iload_n hx hb d_Mo_hasPath_10 rfl (lv_at hl 2 rfl) ?_
  refine m_ild hx hb hK hR 5 (by decide) (by decide) rfl (i := j) (show _ < 320 by omega) d_Mo_hasPath_11 ?_
  refine x_top (y := nI vs.length) (g3) ?_
  refine lv_icmp_ne (tgt := 19) hx hb d_Mo_hasPath_12 (by decide) (fun c1 => ?_) (fun c1 => ?_)
  · have e : ¬ us.length = vs.length := fun q => c1 (by rw [q])
    refine lv_iconst (v := 0) hx hb d_Mo_hasPath_19 (by decide) ?_
    refine x_top (y := if us.length = vs.length ∧ us.take 0 = vs.take 0 then 1 else 0) ((if_neg (fun q => e q.1)).symm) ?_
    refine lv_istore_n (lv' := [(3, .int (if us.length = vs.length ∧ us.take 0 = vs.take 0 then 1 else 0)), (0, .ref b), (1, .int (nI i)), (2, .int (nI j))]) hx hb d_Mo_hasPath_20 rfl hl (by decide) rfl (fun ls hl => ?_)
    exact rest ls (lv_sub hl [0, 1, 2, 3] rfl)
  · have e : us.length = vs.length := (nI_eq (by omega) (by omega)).mp c1
    refine lv_iconst (v := 1) hx hb d_Mo_hasPath_15 (by decide) ?_
    refine lv_goto (tgt := 20) hx hb d_Mo_hasPath_16 (by decide) ?_
    refine x_top (y := if us.length = vs.length ∧ us.take 0 = vs.take 0 then 1 else 0) ((if_pos ⟨e, by rw [List.take_zero, List.take_zero]⟩).symm) ?_
    refine lv_istore_n (lv' := [(3, .int (if us.length = vs.length ∧ us.take 0 = vs.take 0 then 1 else 0)), (0, .ref b), (1, .int (nI i)), (2, .int (nI j))]) hx hb d_Mo_hasPath_20 rfl hl (by decide) rfl (fun ls hl => ?_)
    exact rest ls (lv_sub hl [0, 1, 2, 3] rfl)
end
section
theorem m_g1 {fs : List g_F} {n : g_N} {i : Nat} {f : g_F} (hk : ∀ (j : Nat) (f : g_F), j < i → fs[j]? = some f → ¬ n = f.1) (hn : g_okp n.2.2) (hfs : ∀ f ∈ fs, g_okp f.1.2.2) (hf : fs[i]? = some f) (h0 : n = f.1) : g_find fs n = some i :=
  g_find_some (fun j g hj hg => fun q => hk j g hj hg ((g_no0 hn (hfs g (List.mem_of_getElem? hg))).mp q)) hf ((g_no0 hn (hfs f (List.mem_of_getElem? hf))).mpr h0)
theorem m_g0 {fs : List g_F} {n : g_N} (hk : ∀ (j : Nat) (f : g_F), j < fs.length → fs[j]? = some f → ¬ n = f.1) (hn : g_okp n.2.2) (hfs : ∀ f ∈ fs, g_okp f.1.2.2) : g_find fs n = none :=
  g_find_none (fun j g hj hg => fun q => hk j g hj hg ((g_no0 hn (hfs g (List.mem_of_getElem? hg))).mp q))
theorem m_L.okp {G : m_G} {o : Nat} {fs : List g_F} (h : m_L G o fs) : ∀ f ∈ fs, g_okp f.1.2.2 := fun f hf => by
  obtain ⟨i, hi⟩ := List.getElem?_of_mem hf
  exact (h i f hi).okp
theorem g_ne1 {a b : g_N} (h : ¬ b.1 = a.1) : ¬ a = b := fun e => h (by rw [e])
theorem g_ne2 {a b : g_N} (h : ¬ b.2.1 = a.2.1) : ¬ a = b := fun e => h (by rw [e])
theorem g_ne3 {a b : g_N} (h : ¬ b.2.2 = a.2.2) : ¬ a = b := fun e => h (by rw [e])
theorem g_eq3 {a b : g_N} (h1 : b.1 = a.1) (h2 : b.2.1 = a.2.1) (h3 : b.2.2 = a.2.2) : a = b := by
  obtain ⟨a1, a2, a3⟩ := a
  obtain ⟨b1, b2, b3⟩ := b
  dsimp only at h1 h2 h3
  rw [h1, h2, h3]
def g_okv (x y : Int32) : Int32 := if x < 0 then 0 else if 7 ≤ x then 0 else if y < 0 then 0 else 1
theorem g_okv1 {x y : Int32} (h : g_ok x y) : g_okv x y = 1 := by
  unfold g_okv
  rw [if_neg h.1.1, if_neg (Int32.not_le.mpr h.1.2), if_neg h.2]
theorem g_okv0 {x y : Int32} (h : ¬ g_ok x y) : g_okv x y = 0 := by
  unfold g_okv
  by_cases c1 : x < 0
  · rw [if_pos c1]
  · rw [if_neg c1]
    by_cases c2 : 7 ≤ x
    · rw [if_pos c2]
    · rw [if_neg c2]
      by_cases c3 : y < 0
      · rw [if_pos c3]
      · exact absurd ⟨⟨c1, Int32.not_le.mp c2⟩, c3⟩ h
set_option maxHeartbeats 4000000 in
set_option maxRecDepth 100000 in
theorem c_Mo_find (l : Launch) {D : va_G} {A : Nat → ClassId} {H0 : Heap} {b : Nat} {v0 v1 v2 v4 v5 v6 v7 : Int32} {G : m_G} {fs : List g_F} (ho : m_O D b v0 v1 v2 (nI fs.length) v4 v5 v6 v7 H0) (hR : m_R D A b G H0) {j0 : Nat} {f0 : g_F} {n : g_N} (hfl : fs.length ≤ 60) (hfs : m_L G 0 fs) (hj : j0 < 320) (hf0 : m_e G j0 f0) (hn : n.2.2 = f0.1.2.2) : Met l y_Mo_find w_Mo_find { frames := 1, cells := 0, slots := 0, locals := 24 } (x_Pc D A [.ref b, .int n.1, .int n.2.1, .int (nI j0)] H0) (x_Q (some (.int (g_ixv (g_find fs n)))) (fun H1 => H1 = H0)) 0 0 (fun _ => False) := by
  refine Met.ofW (cc := prog_10_method_8_code) (maxL := 5) (ret := (some .int)) (by decide) rfl ?_
  intro p e s m args below meth c s₁ B hml hv
  obtain ⟨rfl, hH, hK, hN⟩ := hv
  obtain ⟨hx, hb, hr, htb, hown, hlocks⟩ := x_start (wd := Cond.code y_Mo_find prog_10_method_8_code 5 (some .int)) B
  have hl := lv_entry ([.ref b, .int n.1, .int n.2.1, .int (nI j0)]) (n := 5) (Nat.le_of_ble_eq_true rfl)
  rw [lg_entry_eq]
  generalize (lg_sl ([.ref b, .int n.1, .int n.2.1, .int (nI j0)]) ++ List.replicate (5 - (lg_sl ([.ref b, .int n.1, .int n.2.1, .int (nI j0)])).length) Slot.unset).toArray = ls at hl ⊢
  have hl : lv_has ls 5 [(0, .ref b), (1, .int n.1), (2, .int n.2.1), (3, .int (nI j0))] := hl
  rw [hH]
  have hokn : g_okp n.2.2 := by rw [hn]; exact hf0.okp
  refine lv_iconst (v := 0) hx hb d_Mo_find_0 (by decide) ?_
  refine lv_istore (lv' := [(4, .int 0), (0, .ref b), (1, .int n.1), (2, .int n.2.1), (3, .int (nI j0))]) hx hb d_Mo_find_1 hl (by decide) rfl (fun ls hl => ?_)
  refine x_loop (σ := Nat × Array Slot) (fun z => F0 m 3 z.2 []) (fun _ => H0) (fun _ => []) (fun z => z.1 ≤ fs.length ∧ (∀ (j : Nat) (f : g_F), j < z.1 → fs[j]? = some f → ¬ n = f.1) ∧ lv_has z.2 5 [(4, .int (nI z.1)), (0, .ref b), (1, .int n.1), (2, .int n.2.1), (3, .int (nI j0))]) (fun z => fs.length - z.1) (s0 := (0, ls)) ⟨Nat.zero_le _, (fun j f q => absurd q (Nat.not_lt_zero j)), (lv_sub hl [0, 1, 2, 3, 4] rfl)⟩ ?_
  clear hl
  rintro ⟨k, ls⟩ ⟨hk, hno, hl⟩ ih
  dsimp only at hk hno hl ih ⊢
  refine lv_iload hx hb d_Mo_find_3 (lv_at hl 0 rfl) ?_
  refine lv_aload_n hx hb d_Mo_find_5 rfl (lv_at hl 1 rfl) ?_
  refine x_get (ci := 8) (T := T_Mo) hx hb htb u_Mo hown hK ho rfl 11 (by decide) (htb _ mw_471) (fun _ h9 => h9) (v := .int (nI fs.length)) rfl d_Mo_find_6 ?_
  refine lv_icmp_ge (tgt := 53) hx hb d_Mo_find_9 (by decide) (fun c1 => ?_) (fun c1 => ?_)
  · have e : k = fs.length := Nat.le_antisymm hk (Nat.le_of_not_lt fun q => absurd c1 (nI_ge q (by omega)))
    refine lv_iconst (v := (-1)) hx hb d_Mo_find_53 (by decide) ?_
    exact x_iret hx hb hr hlocks (by rw [m_g0 (fun j f q => hno j f (by rw [e]; exact q)) hokn hfs.okp]; rfl) rfl (fun q hq => by cases hq) (Nat.le_refl _) (Nat.le_refl _) d_Mo_find_54
  · have hlt : k < fs.length := Nat.lt_of_not_le fun q => absurd (nI_le q (by omega)) c1
    obtain ⟨f, hff⟩ := g_ex hlt
    have hfe : m_e G k f := hfs k f hff
    refine lv_aload_n hx hb d_Mo_find_12 rfl (lv_at hl 1 rfl) ?_
    refine x_get (ci := 8) (T := T_Mo) hx hb htb u_Mo hown hK ho rfl 5 (by decide) (htb _ mw_465) (fun _ h9 => h9) (v := .ref (b + 3)) rfl d_Mo_find_13 ?_
    refine lv_iload hx hb d_Mo_find_16 (lv_at hl 0 rfl) ?_
    refine m_ild hx hb hK hR 3 (by decide) (by decide) rfl (i := k) (show _ < 320 by omega) d_Mo_find_18 ?_
    refine x_top (y := f.1.1) (hfe.1.1) ?_
    refine lv_iload_n hx hb d_Mo_find_19 rfl (lv_at hl 2 rfl) ?_
    refine lv_icmp_ne (tgt := 47) hx hb d_Mo_find_20 (by decide) (fun c2 => ?_) (fun c2 => ?_)
    · refine lv_iinc (v := nI (k + 1)) (lv' := [(4, .int (nI (k + 1))), (0, .ref b), (1, .int n.1), (2, .int n.2.1), (3, .int (nI j0))]) hx hb d_Mo_find_47 hl (k := 0) rfl (nI_1 k) (by decide) rfl (fun ls hl => ?_)
      refine lv_goto (tgt := 3) hx hb d_Mo_find_50 (by decide) ?_
      refine ih (k + 1, ls) ⟨hlt, fun j f' q q2 => ?_, (lv_sub hl [0, 1, 2, 3, 4] rfl)⟩ (by show fs.length - (k + 1) < fs.length - k; omega)
      rcases Nat.lt_succ_iff_lt_or_eq.mp q with q | q
      · exact hno j f' q q2
      · subst q
        rw [hff] at q2
        cases q2
        exact g_ne1 c2
    · refine lv_aload_n hx hb d_Mo_find_23 rfl (lv_at hl 1 rfl) ?_
      refine x_get (ci := 8) (T := T_Mo) hx hb htb u_Mo hown hK ho rfl 6 (by decide) (htb _ mw_466) (fun _ h9 => h9) (v := .ref (b + 4)) rfl d_Mo_find_24 ?_
      refine lv_iload hx hb d_Mo_find_27 (lv_at hl 0 rfl) ?_
      refine m_ild hx hb hK hR 4 (by decide) (by decide) rfl (i := k) (show _ < 320 by omega) d_Mo_find_29 ?_
      refine x_top (y := f.1.2.1) (hfe.1.2) ?_
      refine lv_iload_n hx hb d_Mo_find_30 rfl (lv_at hl 3 rfl) ?_
      refine lv_icmp_ne (tgt := 47) hx hb d_Mo_find_31 (by decide) (fun c3 => ?_) (fun c3 => ?_)
      · refine lv_iinc (v := nI (k + 1)) (lv' := [(4, .int (nI (k + 1))), (0, .ref b), (1, .int n.1), (2, .int n.2.1), (3, .int (nI j0))]) hx hb d_Mo_find_47 hl (k := 0) rfl (nI_1 k) (by decide) rfl (fun ls hl => ?_)
        refine lv_goto (tgt := 3) hx hb d_Mo_find_50 (by decide) ?_
        refine ih (k + 1, ls) ⟨hlt, fun j f' q q2 => ?_, (lv_sub hl [0, 1, 2, 3, 4] rfl)⟩ (by show fs.length - (k + 1) < fs.length - k; omega)
        rcases Nat.lt_succ_iff_lt_or_eq.mp q with q | q
        · exact hno j f' q q2
        · subst q
          rw [hff] at q2
          cases q2
          exact g_ne2 c3
      · refine lv_aload_n hx hb d_Mo_find_34 rfl (lv_at hl 1 rfl) ?_
        refine lv_iload hx hb d_Mo_find_35 (lv_at hl 0 rfl) ?_
        refine lv_iload_n hx hb d_Mo_find_37 rfl (lv_at hl 4 rfl) ?_
        refine x_callP (va_runV (As := [.int (nI k), .int (nI j0)]) (rest := []) ⟨hx, hb, hml, hown, htb⟩ (c_Mo_hasPath l ho hR (by omega) hj hfe hf0) (x_cV 2 htb mw_574 mw_6 mw_577 mw_576 ms_14 rfl rfl (by decide +kernel) ⟨Nat.le_of_ble_eq_true rfl, Nat.le_of_ble_eq_true rfl⟩) (x_preV hK hN ho rfl) rfl rfl hl.1 rfl (lv_room (Nat.le_of_ble_eq_true rfl)) d_Mo_find_38 ⟨Nat.le_of_ble_eq_true rfl, Nat.le_of_ble_eq_true rfl⟩) ?_
        refine W.eq (g2 := F0 m 41 ls [.int (if f.1.2.2 = f0.1.2.2 then 1 else 0)]) rfl ?_
        refine lv_if_eq (tgt := 47) hx hb d_Mo_find_41 (by decide) (fun c4 => ?_) (fun c4 => ?_)
        · have e5 : ¬ f.1.2.2 = n.2.2 := fun q => by rw [← hn, if_pos q] at c4; exact absurd c4 (by decide)
          refine lv_iinc (v := nI (k + 1)) (lv' := [(4, .int (nI (k + 1))), (0, .ref b), (1, .int n.1), (2, .int n.2.1), (3, .int (nI j0))]) hx hb d_Mo_find_47 hl (k := 0) rfl (nI_1 k) (by decide) rfl (fun ls hl => ?_)
          refine lv_goto (tgt := 3) hx hb d_Mo_find_50 (by decide) ?_
          refine ih (k + 1, ls) ⟨hlt, fun j f' q q2 => ?_, (lv_sub hl [0, 1, 2, 3, 4] rfl)⟩ (by show fs.length - (k + 1) < fs.length - k; omega)
          rcases Nat.lt_succ_iff_lt_or_eq.mp q with q | q
          · exact hno j f' q q2
          · subst q
            rw [hff] at q2
            cases q2
            exact g_ne3 e5
        · have e5 : f.1.2.2 = n.2.2 := Decidable.byContradiction fun q => c4 (by rw [← hn, if_neg q])
          refine lv_iload hx hb d_Mo_find_44 (lv_at hl 0 rfl) ?_
          exact x_iret hx hb hr hlocks (by rw [m_g1 hno hokn hfs.okp hff (g_eq3 c2 c3 e5)]; rfl) rfl (fun q hq => by cases hq) (Nat.le_refl _) (Nat.le_refl _) d_Mo_find_46
set_option maxHeartbeats 4000000 in
set_option maxRecDepth 100000 in
theorem c_Mo_isName (l : Launch) {D : va_G} {A : Nat → ClassId} {H0 : Heap} (x y : Int32) : Met l y_Mo_isName w_Mo_isName { frames := 0, cells := 0, slots := 0, locals := 0 } (x_Pc D A [.int x, .int y] H0) (x_Q (some (.int (g_okv x y))) (fun H1 => H1 = H0)) 0 0 (fun _ => False) := by
  refine Met.ofW (cc := prog_10_method_12_code) (maxL := 2) (ret := (some .boolean)) (by decide) rfl ?_
  intro p e s m args below meth c s₁ B hml hv
  obtain ⟨rfl, hH, hK, hN⟩ := hv
  obtain ⟨hx, hb, hr, htb, hown, hlocks⟩ := x_start (wd := Cond.code y_Mo_isName prog_10_method_12_code 2 (some .boolean)) B
  have hl := lv_entry ([.int x, .int y]) (n := 2) (Nat.le_of_ble_eq_true rfl)
  rw [lg_entry_eq]
  generalize (lg_sl ([.int x, .int y]) ++ List.replicate (2 - (lg_sl ([.int x, .int y])).length) Slot.unset).toArray = ls at hl ⊢
  have hl : lv_has ls 2 [(0, .int x), (1, .int y)] := hl
  rw [hH]
  refine lv_iload_n hx hb d_Mo_isName_0 rfl (lv_at hl 0 rfl) ?_
  refine lv_if_lt (tgt := 18) hx hb d_Mo_isName_1 (by decide) (fun c1 => ?_) (fun c1 => ?_)
  · refine lv_iconst (v := 0) hx hb d_Mo_isName_18 (by decide) ?_
    exact x_zret hx hb hr hlocks (by rw [g_okv, if_pos c1]) (by decide) rfl (fun q hq => by cases hq) (Nat.le_refl _) (Nat.le_refl _) d_Mo_isName_19
  · refine lv_iload_n hx hb d_Mo_isName_4 rfl (lv_at hl 0 rfl) ?_
    refine lv_bipush (v := 7) hx hb d_Mo_isName_5 (by decide) ?_
    refine lv_icmp_ge (tgt := 18) hx hb d_Mo_isName_7 (by decide) (fun c2 => ?_) (fun c2 => ?_)
    · refine lv_iconst (v := 0) hx hb d_Mo_isName_18 (by decide) ?_
      exact x_zret hx hb hr hlocks (by rw [g_okv, if_neg c1, if_pos c2]) (by decide) rfl (fun q hq => by cases hq) (Nat.le_refl _) (Nat.le_refl _) d_Mo_isName_19
    · refine lv_iload_n hx hb d_Mo_isName_10 rfl (lv_at hl 1 rfl) ?_
      refine lv_if_lt (tgt := 18) hx hb d_Mo_isName_11 (by decide) (fun c3 => ?_) (fun c3 => ?_)
      · refine lv_iconst (v := 0) hx hb d_Mo_isName_18 (by decide) ?_
        exact x_zret hx hb hr hlocks (by rw [g_okv, if_neg c1, if_neg c2, if_pos c3]) (by decide) rfl (fun q hq => by cases hq) (Nat.le_refl _) (Nat.le_refl _) d_Mo_isName_19
      · refine lv_iconst (v := 1) hx hb d_Mo_isName_14 (by decide) ?_
        refine lv_goto (tgt := 19) hx hb d_Mo_isName_15 (by decide) ?_
        exact x_zret hx hb hr hlocks (by rw [g_okv, if_neg c1, if_neg c2, if_neg c3]) (by decide) rfl (fun q hq => by cases hq) (Nat.le_refl _) (Nat.le_refl _) d_Mo_isName_19
set_option maxHeartbeats 4000000 in
set_option maxRecDepth 100000 in
theorem c_Mo_entry (l : Launch) {D : va_G} {A : Nat → ClassId} {H0 : Heap} {b : Nat} {v0 v1 v2 v3 v4 v6 v7 : Int32} {G : m_G} {d : Nat} (ho : m_O D b v0 v1 v2 v3 v4 (nI d) v6 v7 H0) (hR : m_R D A b G H0) (hd : d < 200) : Met l y_Mo_entry w_Mo_entry { frames := 0, cells := 0, slots := 0, locals := 0 } (x_Pc D A [.ref b] H0) (x_Q (some (.int (nI (120 + d)))) (fun H1 => H1 = H0)) 0 0 (fun _ => False) := by
  refine Met.ofW (cc := prog_10_method_13_code) (maxL := 1) (ret := (some .int)) (by decide) rfl ?_
  intro p e s m args below meth c s₁ B hml hv
  obtain ⟨rfl, hH, hK, hN⟩ := hv
  obtain ⟨hx, hb, hr, htb, hown, hlocks⟩ := x_start (wd := Cond.code y_Mo_entry prog_10_method_13_code 1 (some .int)) B
  have hl := lv_entry ([.ref b]) (n := 1) (Nat.le_of_ble_eq_true rfl)
  rw [lg_entry_eq]
  generalize (lg_sl ([.ref b]) ++ List.replicate (1 - (lg_sl ([.ref b])).length) Slot.unset).toArray = ls at hl ⊢
  have hl : lv_has ls 1 [(0, .ref b)] := hl
  rw [hH]
  refine lv_bipush (v := 120) hx hb d_Mo_entry_0 (by decide) ?_
  refine lv_aload_n hx hb d_Mo_entry_2 rfl (lv_at hl 0 rfl) ?_
  refine x_get (ci := 8) (T := T_Mo) hx hb htb u_Mo hown hK ho rfl 13 (by decide) (htb _ mw_473) (fun _ h9 => h9) (v := .int (nI d)) rfl d_Mo_entry_3 ?_
  refine lv_sipush (v := 200) hx hb d_Mo_entry_6 (by decide) ?_
  refine lv_icmp_ge (tgt := 19) hx hb d_Mo_entry_9 (by decide) (fun c9 => absurd c9 (nI_ge (a := d) (b := 200) hd (by decide))) (fun _ => ?_)
  refine lv_aload_n hx hb d_Mo_entry_12 rfl (lv_at hl 0 rfl) ?_
  refine x_get (ci := 8) (T := T_Mo) hx hb htb u_Mo hown hK ho rfl 13 (by decide) (htb _ mw_473) (fun _ h9 => h9) (v := .int (nI d)) rfl d_Mo_entry_13 ?_
  refine lv_goto (tgt := 22) hx hb d_Mo_entry_16 (by decide) ?_
  refine lv_iadd hx hb d_Mo_entry_22 ?_
  exact x_iret hx hb hr hlocks (nI_add 120 d) rfl (fun q hq => by cases hq) (Nat.le_refl _) (Nat.le_refl _) d_Mo_entry_23
end
section
set_option maxHeartbeats 4000000 in
set_option maxRecDepth 100000 in
theorem c_Mo_findHere (l : Launch) {D : va_G} {A : Nat → ClassId} {H0 : Heap} {b : Nat} {v0 v1 v4 v5 v6 v7 : Int32} {G : m_G} {fs : List g_F} {ps : List Nat} (ho : m_O D b v0 v1 (nI ps.length) (nI fs.length) v4 v5 v6 v7 H0) (hR : m_R D A b G H0) (x y : Int32) (hfl : fs.length ≤ 60) (hfs : m_L G 0 fs) (hp1 : ps.length ≤ 100) (hp2 : ∀ k, k < ps.length → G 2 k = sb_b (ps.getD k 0)) (hp3 : ∀ u ∈ ps, u < 256)  : Met l y_Mo_findHere w_Mo_findHere { frames := 0, cells := 0, slots := 0, locals := 0 } (x_Pc D A [.ref b, .int x, .int y] H0) (x_Q (some (.int (g_ixv (g_find fs (x, y, ps))))) (fun H1 => H1 = H0)) 0 0 (fun _ => False) := by
  refine Met.ofW (cc := prog_10_method_14_code) (maxL := 6) (ret := (some .int)) (by decide) rfl ?_
  intro p e s m args below meth c s₁ B hml hv
  obtain ⟨rfl, hH, hK, hN⟩ := hv
  obtain ⟨hx, hb, hr, htb, hown, hlocks⟩ := x_start (wd := Cond.code y_Mo_findHere prog_10_method_14_code 6 (some .int)) B
  have hl := lv_entry ([.ref b, .int x, .int y]) (n := 6) (Nat.le_of_ble_eq_true rfl)
  rw [lg_entry_eq]
  generalize (lg_sl ([.ref b, .int x, .int y]) ++ List.replicate (6 - (lg_sl ([.ref b, .int x, .int y])).length) Slot.unset).toArray = ls at hl ⊢
  have hl : lv_has ls 6 [(0, .ref b), (1, .int x), (2, .int y)] := hl
  rw [hH]
  have hokn : g_okp (x, y, ps).2.2 := ⟨by show ps.length ≤ 400; omega, hp3⟩
  refine lv_iconst (v := 0) hx hb d_Mo_findHere_0 (by decide) ?_
  refine lv_istore_n (lv' := [(3, .int 0), (0, .ref b), (1, .int x), (2, .int y)]) hx hb d_Mo_findHere_1 rfl hl (by decide) rfl (fun ls hl => ?_)
  refine x_loop (σ := Nat × Array Slot) (fun z => F0 m 2 z.2 []) (fun _ => H0) (fun _ => []) (fun z => z.1 ≤ fs.length ∧ (∀ (j : Nat) (f : g_F), j < z.1 → fs[j]? = some f → ¬ (x, y, ps) = f.1) ∧ lv_has z.2 6 [(3, .int (nI z.1)), (0, .ref b), (1, .int x), (2, .int y)]) (fun z => fs.length - z.1) (s0 := (0, ls)) ⟨Nat.zero_le _, (fun j f q => absurd q (Nat.not_lt_zero j)), (lv_sub hl [0, 1, 2, 3] rfl)⟩ ?_
  clear hl
  rintro ⟨k, ls⟩ ⟨hk, hno, hl⟩ ih
  dsimp only at hk hno hl ih ⊢
  refine lv_iload_n hx hb d_Mo_findHere_2 rfl (lv_at hl 0 rfl) ?_
  refine lv_aload_n hx hb d_Mo_findHere_3 rfl (lv_at hl 1 rfl) ?_
  refine x_get (ci := 8) (T := T_Mo) hx hb htb u_Mo hown hK ho rfl 11 (by decide) (htb _ mw_471) (fun _ h9 => h9) (v := .int (nI fs.length)) rfl d_Mo_findHere_4 ?_
  refine lv_icmp_ge (tgt := 115) hx hb d_Mo_findHere_7 (by decide) (fun c1 => ?_) (fun c1 => ?_)
  · have e : k = fs.length := Nat.le_antisymm hk (Nat.le_of_not_lt fun q => absurd c1 (nI_ge q (by omega)))
    refine lv_iconst (v := (-1)) hx hb d_Mo_findHere_115 (by decide) ?_
    exact x_iret hx hb hr hlocks (by rw [m_g0 (fun j f q => hno j f (by rw [e]; exact q)) hokn hfs.okp]; rfl) rfl (fun q hq => by cases hq) (Nat.le_refl _) (Nat.le_refl _) d_Mo_findHere_116
  · have hlt : k < fs.length := Nat.lt_of_not_le fun q => absurd (nI_le q (by omega)) c1
    obtain ⟨f, hff⟩ := g_ex hlt
    have hfe : m_e G k f := hfs k f hff
    obtain ⟨⟨f1, f2⟩, ⟨f3, f4, f5, f6⟩, -⟩ := id hfe
    have rest : ∀ ls, lv_has ls 6 [(4, .int (if (f.1.1 = x ∧ f.1.2.1 = y ∧ f.1.2.2.length = ps.length) ∧ f.1.2.2.take 0 = ps.take 0 then 1 else 0)), (3, .int (nI k)), (0, .ref b), (1, .int x), (2, .int y)] → W p l e (headSpec w_Mo_findHere { frames := 0, cells := 0, slots := 0, locals := 0 }).room s m [Value.ref b, Value.int x, Value.int y].toArray below meth c H0 [] 0 0 (MQ below (x_Q (some (.int (g_ixv (g_find fs (x, y, ps))))) (fun H1 => H1 = H0)) [Value.ref b, Value.int x, Value.int y].toArray s 0 0 (fun _ => False)) (F0 m 50 ls []) := by
      intro ls hl
      have ih0 := ih
      have hk0 := hk
      clear ih hk
      refine lv_iconst (v := 0) hx hb d_Mo_findHere_50 (by decide) ?_
      refine lv_istore (lv' := [(5, .int 0), (4, .int (if (f.1.1 = x ∧ f.1.2.1 = y ∧ f.1.2.2.length = ps.length) ∧ f.1.2.2.take 0 = ps.take 0 then 1 else 0)), (3, .int (nI k)), (0, .ref b), (1, .int x), (2, .int y)]) hx hb d_Mo_findHere_51 hl (by decide) rfl (fun ls hl => ?_)
      refine x_loop (σ := Nat × Array Slot) (fun z => F0 m 53 z.2 []) (fun _ => H0) (fun _ => []) (fun z => z.1 ≤ ps.length ∧ lv_has z.2 6 [(5, .int (nI z.1)), (4, .int (if (f.1.1 = x ∧ f.1.2.1 = y ∧ f.1.2.2.length = ps.length) ∧ f.1.2.2.take z.1 = ps.take z.1 then 1 else 0)), (3, .int (nI k)), (0, .ref b), (1, .int x), (2, .int y)]) (fun z => ps.length - z.1) (s0 := (0, ls)) ⟨Nat.zero_le _, (lv_sub hl [0, 1, 2, 3, 4, 5] rfl)⟩ ?_
      clear hl
      rintro ⟨i, ls⟩ ⟨hk, hl⟩ ih
      dsimp only at hk  hl ih ⊢
      refine lv_iload hx hb d_Mo_findHere_53 (lv_at hl 0 rfl) ?_
      refine lv_aload_n hx hb d_Mo_findHere_55 rfl (lv_at hl 3 rfl) ?_
      refine x_get (ci := 8) (T := T_Mo) hx hb htb u_Mo hown hK ho rfl 4 (by decide) (htb _ mw_464) (fun _ h9 => h9) (v := .int (nI ps.length)) rfl d_Mo_findHere_56 ?_
      refine lv_icmp_ge (tgt := 102) hx hb d_Mo_findHere_59 (by decide) (fun c2 => ?_) (fun c2 => ?_)
      · have e : i = ps.length := Nat.le_antisymm hk (Nat.le_of_not_lt fun q => absurd c2 (nI_ge q (by omega)))
        have e5 : ((f.1.1 = x ∧ f.1.2.1 = y ∧ f.1.2.2.length = ps.length) ∧ f.1.2.2.take i = ps.take i) ↔ (x, y, ps) = f.1 := ⟨fun q => g_eq3 q.1.1 q.1.2.1 (m_end (us := f.1.2.2) (vs := ps) (e.trans q.1.2.2.symm) ⟨q.1.2.2, q.2⟩), fun q => by rw [← q]; exact ⟨⟨rfl, rfl, rfl⟩, rfl⟩⟩
        refine lv_iload hx hb d_Mo_findHere_102 (lv_at hl 1 rfl) ?_
        refine lv_if_eq (tgt := 109) hx hb d_Mo_findHere_104 (by decide) (fun c4 => ?_) (fun c4 => ?_)
        · have e6 : ¬ (x, y, ps) = f.1 := fun q => by rw [if_pos (e5.mpr q)] at c4; exact absurd c4 (by decide)
          refine lv_iinc (v := nI (k + 1)) (lv' := [(3, .int (nI (k + 1))), (5, .int (nI i)), (4, .int (if (f.1.1 = x ∧ f.1.2.1 = y ∧ f.1.2.2.length = ps.length) ∧ f.1.2.2.take i = ps.take i then 1 else 0)), (0, .ref b), (1, .int x), (2, .int y)]) hx hb d_Mo_findHere_109 hl (k := 2) rfl (nI_1 k) (by decide) rfl (fun ls hl => ?_)
          refine lv_goto (tgt := 2) hx hb d_Mo_findHere_112 (by decide) ?_
          refine ih0 (k + 1, ls) ⟨hlt, fun j f' q q2 => ?_, (lv_sub hl [0, 3, 4, 5] rfl)⟩ (by show fs.length - (k + 1) < fs.length - k; omega)
          rcases Nat.lt_succ_iff_lt_or_eq.mp q with q | q
          · exact hno j f' q q2
          · subst q
            rw [hff] at q2
            cases q2
            exact e6
        · have e6 : (x, y, ps) = f.1 := Decidable.byContradiction fun q => c4 (if_neg (fun w => q (e5.mp w)))
          refine lv_iload_n hx hb d_Mo_findHere_107 rfl (lv_at hl 2 rfl) ?_
          exact x_iret hx hb hr hlocks (by rw [m_g1 hno hokn hfs.okp hff e6]; rfl) rfl (fun q hq => by cases hq) (Nat.le_refl _) (Nat.le_refl _) d_Mo_findHere_108
      · have hlt2 : i < ps.length := Nat.lt_of_not_le fun q => absurd (nI_le q (by omega)) c2
        refine lv_iload hx hb d_Mo_findHere_62 (lv_at hl 1 rfl) ?_
        refine lv_if_eq (tgt := 102) hx hb d_Mo_findHere_64 (by decide) (fun c3 => ?_) (fun c3 => ?_)
        · have e2 : ¬ ((f.1.1 = x ∧ f.1.2.1 = y ∧ f.1.2.2.length = ps.length) ∧ f.1.2.2.take i = ps.take i) := fun q => by rw [if_pos q] at c3; exact absurd c3 (by decide)
          have e5 : ((f.1.1 = x ∧ f.1.2.1 = y ∧ f.1.2.2.length = ps.length) ∧ f.1.2.2.take i = ps.take i) ↔ (x, y, ps) = f.1 := ⟨fun q => absurd q e2, fun q => by rw [← q]; exact ⟨⟨rfl, rfl, rfl⟩, rfl⟩⟩
          refine lv_iload hx hb d_Mo_findHere_102 (lv_at hl 1 rfl) ?_
          refine lv_if_eq (tgt := 109) hx hb d_Mo_findHere_104 (by decide) (fun c4 => ?_) (fun c4 => ?_)
          · have e6 : ¬ (x, y, ps) = f.1 := fun q => by rw [if_pos (e5.mpr q)] at c4; exact absurd c4 (by decide)
            refine lv_iinc (v := nI (k + 1)) (lv' := [(3, .int (nI (k + 1))), (5, .int (nI i)), (4, .int (if (f.1.1 = x ∧ f.1.2.1 = y ∧ f.1.2.2.length = ps.length) ∧ f.1.2.2.take i = ps.take i then 1 else 0)), (0, .ref b), (1, .int x), (2, .int y)]) hx hb d_Mo_findHere_109 hl (k := 2) rfl (nI_1 k) (by decide) rfl (fun ls hl => ?_)
            refine lv_goto (tgt := 2) hx hb d_Mo_findHere_112 (by decide) ?_
            refine ih0 (k + 1, ls) ⟨hlt, fun j f' q q2 => ?_, (lv_sub hl [0, 3, 4, 5] rfl)⟩ (by show fs.length - (k + 1) < fs.length - k; omega)
            rcases Nat.lt_succ_iff_lt_or_eq.mp q with q | q
            · exact hno j f' q q2
            · subst q
              rw [hff] at q2
              cases q2
              exact e6
          · have e6 : (x, y, ps) = f.1 := Decidable.byContradiction fun q => c4 (if_neg (fun w => q (e5.mp w)))
            refine lv_iload_n hx hb d_Mo_findHere_107 rfl (lv_at hl 2 rfl) ?_
            exact x_iret hx hb hr hlocks (by rw [m_g1 hno hokn hfs.okp hff e6]; rfl) rfl (fun q hq => by cases hq) (Nat.le_refl _) (Nat.le_refl _) d_Mo_findHere_108
        · have e2 : (f.1.1 = x ∧ f.1.2.1 = y ∧ f.1.2.2.length = ps.length) ∧ f.1.2.2.take i = ps.take i := Decidable.byContradiction fun q => c3 (if_neg q)
          have e3 := e2.1.2.2
          refine lv_aload_n hx hb d_Mo_findHere_67 rfl (lv_at hl 3 rfl) ?_
          refine x_get (ci := 8) (T := T_Mo) hx hb htb u_Mo hown hK ho rfl 9 (by decide) (htb _ mw_469) (fun _ h9 => h9) (v := .ref (b + 7)) rfl d_Mo_findHere_68 ?_
          refine lv_bipush (v := 100) hx hb d_Mo_findHere_71 (by decide) ?_
          refine lv_iload_n hx hb d_Mo_findHere_73 rfl (lv_at hl 2 rfl) ?_
          refine lv_imul hx hb d_Mo_findHere_74 ?_
          refine lv_iload hx hb d_Mo_findHere_75 (lv_at hl 0 rfl) ?_
          refine lv_iadd hx hb d_Mo_findHere_77 ?_
          refine x_top (y := nI (100 * k + i)) (by rw [show (100 : Int32) = nI 100 from rfl, pk_mul, nI_add]) ?_
          refine m_bld hx hb hK hR 7 (by decide) (by decide) rfl (i := 100 * k + i) (show _ < 32000 by omega) d_Mo_findHere_78 ?_
          refine x_top (y := sb_b (f.1.2.2.getD i 0)) (f5 i (by omega)) ?_
          refine lv_aload_n hx hb d_Mo_findHere_79 rfl (lv_at hl 3 rfl) ?_
          refine x_get (ci := 8) (T := T_Mo) hx hb htb u_Mo hown hK ho rfl 2 (by decide) (htb _ mw_462) (fun _ h9 => h9) (v := .ref (b + 2)) rfl d_Mo_findHere_80 ?_
          refine lv_iload hx hb d_Mo_findHere_83 (lv_at hl 0 rfl) ?_
          refine m_bld hx hb hK hR 2 (by decide) (by decide) rfl (i := i) (show _ < 100 by omega) d_Mo_findHere_85 ?_
          refine x_top (y := sb_b (ps.getD i 0)) (hp2 i hlt2) ?_
          have e4 := m_tk2 (us := f.1.2.2) (k := i) (by omega) hlt2
          refine lv_icmp_ne (tgt := 93) hx hb d_Mo_findHere_86 (by decide) (fun c5 => ?_) (fun c5 => ?_)
          · refine lv_iconst (v := 0) hx hb d_Mo_findHere_93 (by decide) ?_
            refine x_top (y := if (f.1.1 = x ∧ f.1.2.1 = y ∧ f.1.2.2.length = ps.length) ∧ f.1.2.2.take (i + 1) = ps.take (i + 1) then 1 else 0) ((if_neg (fun q => c5 (congrArg sb_b (e4.mp q.2).2))).symm) ?_
            refine lv_istore (lv' := [(4, .int (if (f.1.1 = x ∧ f.1.2.1 = y ∧ f.1.2.2.length = ps.length) ∧ f.1.2.2.take (i + 1) = ps.take (i + 1) then 1 else 0)), (5, .int (nI i)), (3, .int (nI k)), (0, .ref b), (1, .int x), (2, .int y)]) hx hb d_Mo_findHere_94 hl (by decide) rfl (fun ls hl => ?_)
            refine lv_iinc (v := nI (i + 1)) (lv' := [(5, .int (nI (i + 1))), (4, .int (if (f.1.1 = x ∧ f.1.2.1 = y ∧ f.1.2.2.length = ps.length) ∧ f.1.2.2.take (i + 1) = ps.take (i + 1) then 1 else 0)), (3, .int (nI k)), (0, .ref b), (1, .int x), (2, .int y)]) hx hb d_Mo_findHere_96 hl (k := 1) rfl (nI_1 i) (by decide) rfl (fun ls hl => ?_)
            refine lv_goto (tgt := 53) hx hb d_Mo_findHere_99 (by decide) ?_
            exact ih (i + 1, ls) ⟨hlt2, (lv_sub hl [0, 1, 2, 3, 4, 5] rfl)⟩ (by show ps.length - (i + 1) < ps.length - i; omega)
          · refine lv_iconst (v := 1) hx hb d_Mo_findHere_89 (by decide) ?_
            refine lv_goto (tgt := 94) hx hb d_Mo_findHere_90 (by decide) ?_
            refine x_top (y := if (f.1.1 = x ∧ f.1.2.1 = y ∧ f.1.2.2.length = ps.length) ∧ f.1.2.2.take (i + 1) = ps.take (i + 1) then 1 else 0) ((if_pos ⟨e2.1, e4.mpr ⟨e2.2, sb_inj (g_u f6 i) (g_u hp3 i) c5⟩⟩).symm) ?_
            refine lv_istore (lv' := [(4, .int (if (f.1.1 = x ∧ f.1.2.1 = y ∧ f.1.2.2.length = ps.length) ∧ f.1.2.2.take (i + 1) = ps.take (i + 1) then 1 else 0)), (5, .int (nI i)), (3, .int (nI k)), (0, .ref b), (1, .int x), (2, .int y)]) hx hb d_Mo_findHere_94 hl (by decide) rfl (fun ls hl => ?_)
            refine lv_iinc (v := nI (i + 1)) (lv' := [(5, .int (nI (i + 1))), (4, .int (if (f.1.1 = x ∧ f.1.2.1 = y ∧ f.1.2.2.length = ps.length) ∧ f.1.2.2.take (i + 1) = ps.take (i + 1) then 1 else 0)), (3, .int (nI k)), (0, .ref b), (1, .int x), (2, .int y)]) hx hb d_Mo_findHere_96 hl (k := 1) rfl (nI_1 i) (by decide) rfl (fun ls hl => ?_)
            refine lv_goto (tgt := 53) hx hb d_Mo_findHere_99 (by decide) ?_
            exact ih (i + 1, ls) ⟨hlt2, (lv_sub hl [0, 1, 2, 3, 4, 5] rfl)⟩ (by show ps.length - (i + 1) < ps.length - i; omega)
    refine lv_aload_n hx hb d_Mo_findHere_10 rfl (lv_at hl 1 rfl) ?_
    refine x_get (ci := 8) (T := T_Mo) hx hb htb u_Mo hown hK ho rfl 5 (by decide) (htb _ mw_465) (fun _ h9 => h9) (v := .ref (b + 3)) rfl d_Mo_findHere_11 ?_
    refine lv_iload_n hx hb d_Mo_findHere_14 rfl (lv_at hl 0 rfl) ?_
    refine m_ild hx hb hK hR 3 (by decide) (by decide) rfl (i := k) (show _ < 320 by omega) d_Mo_findHere_15 ?_
    refine x_top (y := f.1.1) (f1) ?_
    refine lv_iload_n hx hb d_Mo_findHere_16 rfl (lv_at hl 2 rfl) ?_
    refine lv_icmp_ne (tgt := 47) hx hb d_Mo_findHere_17 (by decide) (fun c2 => ?_) (fun c2 => ?_)
    · refine lv_iconst (v := 0) hx hb d_Mo_findHere_47 (by decide) ?_
      refine x_top (y := if (f.1.1 = x ∧ f.1.2.1 = y ∧ f.1.2.2.length = ps.length) ∧ f.1.2.2.take 0 = ps.take 0 then 1 else 0) ((if_neg (fun q => c2 q.1.1)).symm) ?_
      refine lv_istore (lv' := [(4, .int (if (f.1.1 = x ∧ f.1.2.1 = y ∧ f.1.2.2.length = ps.length) ∧ f.1.2.2.take 0 = ps.take 0 then 1 else 0)), (3, .int (nI k)), (0, .ref b), (1, .int x), (2, .int y)]) hx hb d_Mo_findHere_48 hl (by decide) rfl (fun ls hl => ?_)
      exact rest ls (lv_sub hl [0, 1, 2, 3, 4] rfl)
    · refine lv_aload_n hx hb d_Mo_findHere_20 rfl (lv_at hl 1 rfl) ?_
      refine x_get (ci := 8) (T := T_Mo) hx hb htb u_Mo hown hK ho rfl 6 (by decide) (htb _ mw_466) (fun _ h9 => h9) (v := .ref (b + 4)) rfl d_Mo_findHere_21 ?_
      refine lv_iload_n hx hb d_Mo_findHere_24 rfl (lv_at hl 0 rfl) ?_
      refine m_ild hx hb hK hR 4 (by decide) (by decide) rfl (i := k) (show _ < 320 by omega) d_Mo_findHere_25 ?_
      refine x_top (y := f.1.2.1) (f2) ?_
      refine lv_iload_n hx hb d_Mo_findHere_26 rfl (lv_at hl 3 rfl) ?_
      refine lv_icmp_ne (tgt := 47) hx hb d_Mo_findHere_27 (by decide) (fun c3 => ?_) (fun c3 => ?_)
      · refine lv_iconst (v := 0) hx hb d_Mo_findHere_47 (by decide) ?_
        refine x_top (y := if (f.1.1 = x ∧ f.1.2.1 = y ∧ f.1.2.2.length = ps.length) ∧ f.1.2.2.take 0 = ps.take 0 then 1 else 0) ((if_neg (fun q => c3 q.1.2.1)).symm) ?_
        refine lv_istore (lv' := [(4, .int (if (f.1.1 = x ∧ f.1.2.1 = y ∧ f.1.2.2.length = ps.length) ∧ f.1.2.2.take 0 = ps.take 0 then 1 else 0)), (3, .int (nI k)), (0, .ref b), (1, .int x), (2, .int y)]) hx hb d_Mo_findHere_48 hl (by decide) rfl (fun ls hl => ?_)
        exact rest ls (lv_sub hl [0, 1, 2, 3, 4] rfl)
      · refine lv_aload_n hx hb d_Mo_findHere_30 rfl (lv_at hl 1 rfl) ?_
        refine x_get (ci := 8) (T := T_Mo) hx hb htb u_Mo hown hK ho rfl 7 (by decide) (htb _ mw_467) (fun _ h9 => h9) (v := .ref (b + 5)) rfl d_Mo_findHere_31 ?_
        refine lv_iload_n hx hb d_Mo_findHere_34 rfl (lv_at hl 0 rfl) ?_
        refine m_ild hx hb hK hR 5 (by decide) (by decide) rfl (i := k) (show _ < 320 by omega) d_Mo_findHere_35 ?_
        refine x_top (y := nI f.1.2.2.length) (f3) ?_
        refine lv_aload_n hx hb d_Mo_findHere_36 rfl (lv_at hl 1 rfl) ?_
        refine x_get (ci := 8) (T := T_Mo) hx hb htb u_Mo hown hK ho rfl 4 (by decide) (htb _ mw_464) (fun _ h9 => h9) (v := .int (nI ps.length)) rfl d_Mo_findHere_37 ?_
        refine lv_icmp_ne (tgt := 47) hx hb d_Mo_findHere_40 (by decide) (fun c4 => ?_) (fun c4 => ?_)
        · refine lv_iconst (v := 0) hx hb d_Mo_findHere_47 (by decide) ?_
          refine x_top (y := if (f.1.1 = x ∧ f.1.2.1 = y ∧ f.1.2.2.length = ps.length) ∧ f.1.2.2.take 0 = ps.take 0 then 1 else 0) ((if_neg (fun q => c4 (by rw [q.1.2.2]))).symm) ?_
          refine lv_istore (lv' := [(4, .int (if (f.1.1 = x ∧ f.1.2.1 = y ∧ f.1.2.2.length = ps.length) ∧ f.1.2.2.take 0 = ps.take 0 then 1 else 0)), (3, .int (nI k)), (0, .ref b), (1, .int x), (2, .int y)]) hx hb d_Mo_findHere_48 hl (by decide) rfl (fun ls hl => ?_)
          exact rest ls (lv_sub hl [0, 1, 2, 3, 4] rfl)
        · refine lv_iconst (v := 1) hx hb d_Mo_findHere_43 (by decide) ?_
          refine lv_goto (tgt := 48) hx hb d_Mo_findHere_44 (by decide) ?_
          refine x_top (y := if (f.1.1 = x ∧ f.1.2.1 = y ∧ f.1.2.2.length = ps.length) ∧ f.1.2.2.take 0 = ps.take 0 then 1 else 0) ((if_pos ⟨⟨c2, c3, (nI_eq (by omega) (by omega)).mp c4⟩, by rw [List.take_zero, List.take_zero]⟩).symm) ?_
          refine lv_istore (lv' := [(4, .int (if (f.1.1 = x ∧ f.1.2.1 = y ∧ f.1.2.2.length = ps.length) ∧ f.1.2.2.take 0 = ps.take 0 then 1 else 0)), (3, .int (nI k)), (0, .ref b), (1, .int x), (2, .int y)]) hx hb d_Mo_findHere_48 hl (by decide) rfl (fun ls hl => ?_)
          exact rest ls (lv_sub hl [0, 1, 2, 3, 4] rfl)
/-- the last file in the place of file k -/
def m_drop (fs : List g_F) (k : Nat) : List g_F := match fs.getLast? with
  | some f => (fs.set k f).dropLast
  | none => fs
theorem m_drop_last {fs : List g_F} {f : g_F} (hf : fs.getLast? = some f) {k : Nat} : m_drop fs k = (fs.set k f).dropLast := by
  unfold m_drop
  rw [hf]
theorem m_drop_len {fs : List g_F} {k : Nat} (h : 0 < fs.length) : (m_drop fs k).length = fs.length - 1 := by
  obtain ⟨f, hf⟩ : ∃ f, fs.getLast? = some f := by
    cases e : fs.getLast? with
    | none => rw [List.getLast?_eq_none_iff] at e; rw [e] at h; exact absurd h (Nat.lt_irrefl _)
    | some f => exact ⟨f, rfl⟩
  rw [m_drop_last hf, List.length_dropLast, List.length_set]
theorem m_drop_get {fs : List g_F} {f : g_F} {k : Nat} (hf : fs[fs.length - 1]? = some f) {i : Nat} {g : g_F} (h : (m_drop fs k)[i]? = some g) : i < fs.length - 1 ∧ ((i = k ∧ g = f) ∨ (i ≠ k ∧ fs[i]? = some g)) := by
  have hl : fs.getLast? = some f := by rw [List.getLast?_eq_getElem?]; exact hf
  rw [m_drop_last hl, List.getElem?_dropLast, List.length_set] at h
  split at h
  · rename_i hi
    refine ⟨hi, ?_⟩
    rw [List.getElem?_set] at h
    split at h
    · rename_i e
      split at h
      · exact Or.inl ⟨e.symm, (Option.some.inj h).symm⟩
      · cases h
    · rename_i e
      exact Or.inr ⟨fun q => e q.symm, h⟩
  · cases h
theorem m_fr.L {t o : Nat} {G G' : m_G} {fs : List g_F} (h : m_fr t G G') (ht : t < o ∨ o + fs.length ≤ t) (hf : m_L G o fs) : m_L G' o fs := fun i f hi => h.e (by have := (List.getElem?_eq_some_iff.mp hi).1; omega) (hf i f hi)

set_option maxHeartbeats 4000000 in
set_option maxRecDepth 100000 in
theorem c_Mo_drop (l : Launch) {D : va_G} {A : Nat → ClassId} {H0 : Heap} {b : Nat} {v0 v1 v2 v4 v5 v6 v7 : Int32} {G : m_G} {fs : List g_F} (ho : m_O D b v0 v1 v2 (nI fs.length) v4 v5 v6 v7 H0) (hR : m_R D A b G H0) {k : Nat} (hfl : fs.length ≤ 60) (hfs : m_L G 0 fs) (hk : k < fs.length) : Met l y_Mo_drop w_Mo_drop { frames := 1, cells := 0, slots := 0, locals := 23 } (x_Pc D A [.ref b, .int (nI k)] H0) (x_Q none (fun H1 => ∃ G1 : m_G, m_O D b v0 v1 v2 (nI (fs.length - 1)) v4 v5 v6 v7 H1 ∧ m_R D A b G1 H1 ∧ m_K b H0 H1 ∧ m_L G1 0 (m_drop fs k) ∧ m_fr k G G1)) 0 0 (m_fq b) := by
  refine Met.ofW (cc := prog_10_method_9_code) (maxL := 2) (ret := none) (by decide) rfl ?_
  intro p e s m args below meth c s₁ B hml hv
  obtain ⟨rfl, hH, hK, hN⟩ := hv
  obtain ⟨hx, hb, hr, htb, hown, hlocks⟩ := x_start (wd := Cond.code y_Mo_drop prog_10_method_9_code 2 none) B
  have hl := lv_entry ([.ref b, .int (nI k)]) (n := 2) (Nat.le_of_ble_eq_true rfl)
  rw [lg_entry_eq]
  generalize (lg_sl ([.ref b, .int (nI k)]) ++ List.replicate (2 - (lg_sl ([.ref b, .int (nI k)])).length) Slot.unset).toArray = ls at hl ⊢
  have hl : lv_has ls 2 [(0, .ref b), (1, .int (nI k))] := hl
  rw [hH]
  have hM : m_K b H0 H0 := m_K.refl
  have hL : ∀ q ∈ ([] : List Loc), m_fq b q.base := fun q hq => by cases hq
  obtain ⟨g, hg⟩ := g_ex (as := fs) (j := fs.length - 1) (by omega)
  have hge : m_e G (fs.length - 1) g := hfs _ g hg
  refine lv_aload_n hx hb d_Mo_drop_0 rfl (lv_at hl 0 rfl) ?_
  refine lv_dup hx hb d_Mo_drop_1 rfl ?_
  refine x_get (ci := 8) (T := T_Mo) hx hb htb u_Mo hown hK ho rfl 11 (by decide) (htb _ mw_471) (fun _ h9 => h9) (v := .int (nI fs.length)) rfl d_Mo_drop_2 ?_
  refine lv_iconst (v := 1) hx hb d_Mo_drop_5 (by decide) ?_
  refine lv_isub hx hb d_Mo_drop_6 ?_
  refine x_top (y := nI (fs.length - 1)) (by rw [show nI fs.length = nI (fs.length - 1 + 1) from congrArg nI (by omega), nI_pred]) ?_
  refine x_put (F := m_fq b) (ci := 8) (v := .int (nI (fs.length - 1))) (ty := .int) (T := T_Mo) hx hb htb u_Mo t_Mo t_Mo_ok n_Mo hown hK ho hL ⟨Nat.le_refl _, Nat.le_add_right _ _⟩ rfl 11 (by decide) (htb _ mw_471) (fun _ h9 => h9) rfl (by decide +kernel) rfl rfl (Nat.le_of_ble_eq_true rfl) d_Mo_drop_7 (fun H1 locs hf1 hc2 hL => ?_)
  have hf1 : va_at D x_cl (b, .inr (8, [.int v0, .ref (b + 1), .ref (b + 2), .int v1, .int v2, .ref (b + 3), .ref (b + 4), .ref (b + 5), .ref (b + 6), .ref (b + 7), .ref (b + 8), .int (nI (fs.length - 1)), .int v4, .int v5, .int v6, .ref (b + 9), .ref (b + 10), .ref (b + 11), .int v7, .ref (b + 12), .ref (b + 13), .ref (b + 14), .ref (b + 15)])) H1 := hf1
  have ho : m_O D b v0 v1 v2 (nI (fs.length - 1)) v4 v5 v6 v7 H1 := hf1
  have hR := hR.but0 hc2
  have hM := hM.trans (m_K.but0 hc2)
  refine lv_iload_n hx hb d_Mo_drop_10 rfl (lv_at hl 1 rfl) ?_
  refine lv_aload_n hx hb d_Mo_drop_11 rfl (lv_at hl 0 rfl) ?_
  refine x_get (ci := 8) (T := T_Mo) hx hb htb u_Mo hown hK ho rfl 11 (by decide) (htb _ mw_471) (fun _ h9 => h9) (v := .int (nI (fs.length - 1))) rfl d_Mo_drop_12 ?_
  refine lv_icmp_ge (tgt := 27) hx hb d_Mo_drop_15 (by decide) (fun c1 => ?_) (fun c1 => ?_)
  · have e : k = fs.length - 1 := by
      rcases Nat.lt_or_ge k (fs.length - 1) with q | q
      · exact absurd c1 (nI_ge q (by omega))
      · omega
    exact x_vret hx hb hr hlocks ⟨G, ho, hR, hM, (fun i f h => (m_drop_get hg h).2.elim (fun h2 => absurd h2.1 (by have := (m_drop_get hg h).1; omega)) (fun h2 => hfs i f h2.2)), m_fr.refl⟩ hL (Nat.le_refl _) (Nat.le_refl _) d_Mo_drop_27
  · have e : k < fs.length - 1 := Nat.lt_of_not_le fun q => c1 (nI_le q (by omega))
    refine lv_aload_n hx hb d_Mo_drop_18 rfl (lv_at hl 0 rfl) ?_
    refine lv_aload_n hx hb d_Mo_drop_19 rfl (lv_at hl 0 rfl) ?_
    refine x_get (ci := 8) (T := T_Mo) hx hb htb u_Mo hown hK ho rfl 11 (by decide) (htb _ mw_471) (fun _ h9 => h9) (v := .int (nI (fs.length - 1))) rfl d_Mo_drop_20 ?_
    refine lv_iload_n hx hb d_Mo_drop_23 rfl (lv_at hl 1 rfl) ?_
    refine x_call (F := m_fq b) (va_runV (As := [.int (nI (fs.length - 1)), .int (nI k)]) (rest := []) ⟨hx, hb, hml, hown, htb⟩ (c_Mo_copy l ho hR (i := fs.length - 1) (j := k) (by omega) (by omega) (by omega) hge) (x_cV 2 htb mw_578 mw_6 mw_581 mw_580 ms_15 rfl rfl (by decide +kernel) ⟨Nat.le_of_ble_eq_true rfl, Nat.le_of_ble_eq_true rfl⟩) (x_preV hK hN ho rfl) rfl rfl hl.1 rfl (lv_room (Nat.le_of_ble_eq_true rfl)) d_Mo_drop_24 ⟨Nat.le_of_ble_eq_true rfl, Nat.le_of_ble_eq_true rfl⟩) hL (fun q hq => hq) (fun H2 locs hP hL => ?_)
    refine W.eq (g2 := F0 m 27 ls []) rfl ?_
    obtain ⟨G1, q1, q2, q3, q4, q5⟩ := hP
    exact x_vret hx hb hr hlocks ⟨G1, q1, q2, hM.trans q3, (fun i f h => (m_drop_get hg h).2.elim (fun h2 => by rw [h2.1, h2.2]; exact q4) (fun h2 => q5.e h2.1 (hfs i f h2.2))), q5⟩ hL (Nat.le_refl _) (Nat.le_refl _) d_Mo_drop_27
end
section
/-- an operation as the reference holds it: which, to which sort and time, its entry -/
abbrev m_P : Type := Int32 × Int32 × Int32 × g_F
def m_ren (fs : List g_F) (i : Nat) (x y : Int32) : List g_F := match fs[i]? with
  | some g => fs.set i ((x, y, g.1.2.2), g.2)
  | none => fs
def m_act (fs : List g_F) (o : m_P) : List g_F :=
  if o.1 = 0 then (match g_find fs o.2.2.2.1 with
    | some i => fs.set i o.2.2.2
    | none => fs ++ [o.2.2.2])
  else if o.1 = 2 then (match g_find fs o.2.2.2.1 with
    | some i => m_drop fs i
    | none => fs)
  else if o.2.1 = o.2.2.2.1.1 ∧ o.2.2.1 = o.2.2.2.1.2.1 then fs
  else match g_find fs o.2.2.2.1 with
    | some i => (match g_find fs (o.2.1, o.2.2.1, o.2.2.2.1.2.2) with
      | some j => m_drop (m_ren fs i o.2.1 o.2.2.1) j
      | none => m_ren fs i o.2.1 o.2.2.1)
    | none => fs
/-- no entry from 60 on differs, nor any other row -/
def m_f60 (G G' : m_G) : Prop := (∀ e, 60 ≤ e → (∀ k, 3 ≤ k → k ≤ 6 → G' k e = G k e) ∧ (∀ k, k < 100 → G' 7 (100 * e + k) = G 7 (100 * e + k)) ∧ (∀ k, k < 400 → G' 8 (400 * e + k) = G 8 (400 * e + k))) ∧ ∀ k, (k < 3 ∨ 8 < k) → G' k = G k
theorem m_f60.refl {G : m_G} : m_f60 G G := ⟨fun _ _ => ⟨fun _ _ _ => rfl, fun _ _ => rfl, fun _ _ => rfl⟩, fun _ _ => rfl⟩
theorem m_f60.trans {G G1 G2 : m_G} (h : m_f60 G G1) (h2 : m_f60 G1 G2) : m_f60 G G2 := ⟨fun e he => ⟨fun k a b => ((h2.1 e he).1 k a b).trans ((h.1 e he).1 k a b), fun k a => ((h2.1 e he).2.1 k a).trans ((h.1 e he).2.1 k a), fun k a => ((h2.1 e he).2.2 k a).trans ((h.1 e he).2.2 k a)⟩, fun k a => (h2.2 k a).trans (h.2 k a)⟩
theorem m_fr.f60 {t : Nat} {G G' : m_G} (h : m_fr t G G') (ht : t < 60) : m_f60 G G' := ⟨fun e he => h.1 e (by omega), h.2⟩
theorem m_f60.e {e : Nat} {G G' : m_G} {f : g_F} (h : m_f60 G G') (he : 60 ≤ e) (hf : m_e G e f) : m_e G' e f := by
  obtain ⟨a, b, c⟩ := h.1 e he
  obtain ⟨⟨f1, f2⟩, ⟨f3, f4, f5, f6⟩, f7, f8, f9, f10⟩ := hf
  exact ⟨⟨(a 3 (by decide) (by decide)).trans f1, (a 4 (by decide) (by decide)).trans f2⟩, ⟨(a 5 (by decide) (by decide)).trans f3, f4, fun k hk => (b k (by omega)).trans (f5 k hk), f6⟩, (a 6 (by decide) (by decide)).trans f7, f8, fun k hk => (c k (by omega)).trans (f9 k hk), f10⟩
theorem m_f60.L {o : Nat} {G G' : m_G} {fs : List g_F} (h : m_f60 G G') (ho : 60 ≤ o) (hf : m_L G o fs) : m_L G' o fs := fun i f hi => h.e (by omega) (hf i f hi)
theorem m_L.set {G G' : m_G} {fs : List g_F} {i : Nat} {x : g_F} (h : m_L G 0 fs) (hfr : m_fr i G G') (hx : m_e G' i x) : m_L G' 0 (fs.set i x) := fun j f hj => by
  rw [List.getElem?_set] at hj
  split at hj
  · rename_i e
    split at hj
    · cases hj
      rw [← e]
      exact hx
    · cases hj
  · rename_i e
    exact hfr.e (fun q => e q.symm) (h j f hj)
theorem m_L.app {G G' : m_G} {fs : List g_F} {x : g_F} (h : m_L G 0 fs) (hfr : m_fr fs.length G G') (hx : m_e G' fs.length x) : m_L G' 0 (fs ++ [x]) := fun j f hj => by
  rcases Nat.lt_or_ge j fs.length with q | q
  · rw [List.getElem?_append_left q] at hj
    exact hfr.e (by omega) (h j f hj)
  · rw [List.getElem?_append_right q] at hj
    have h3 : j - fs.length = 0 := by
      have := (List.getElem?_eq_some_iff.mp hj).1
      simp at this
      exact this
    rw [h3] at hj
    cases hj
    have h4 : j = fs.length := by omega
    rw [h4]
    exact hx
theorem m_e.ren {G G1 G2 : m_G} {i : Nat} {g : g_F} {x y : Int32} (h : m_e G i g) (e1 : G1 = m_up G 3 (upd (G 3) i x)) (e2 : G2 = m_up G1 4 (upd (G1 4) i y)) : m_e G2 i ((x, y, g.1.2.2), g.2) ∧ m_fr i G G2 := by
  have a3 : G2 3 i = x := by rw [e2, m_up_ne _ _ (by decide), e1, m_up_self, pk_us]
  have a4 : G2 4 i = y := by rw [e2, m_up_self, pk_us]
  have au : ∀ k, k ≠ 3 → k ≠ 4 → G2 k = G k := fun k h3 h4 => by rw [e2, m_up_ne _ _ h4, e1, m_up_ne _ _ h3]
  refine ⟨⟨⟨a3, a4⟩, ⟨(congrFun (au 5 (by decide) (by decide)) i).trans h.2.1.1, h.2.1.2.1, fun k hk => (congrFun (au 7 (by decide) (by decide)) _).trans (h.2.1.2.2.1 k hk), h.2.1.2.2.2⟩, (congrFun (au 6 (by decide) (by decide)) i).trans h.2.2.1, h.2.2.2.1, fun k hk => (congrFun (au 8 (by decide) (by decide)) _).trans (h.2.2.2.2.1 k hk), h.2.2.2.2.2⟩, ?_⟩
  rw [e2]
  refine m_fr.trans ?_ (m_fr.set (by decide) (by decide))
  rw [e1]
  exact m_fr.set (by decide) (by decide)
theorem m_ren_some {fs : List g_F} {i : Nat} {g : g_F} (h : fs[i]? = some g) (x y : Int32) : m_ren fs i x y = fs.set i ((x, y, g.1.2.2), g.2) := by
  unfold m_ren
  rw [h]
theorem m_ren_len {fs : List g_F} {i : Nat} {x y : Int32} : (m_ren fs i x y).length = fs.length := by
  unfold m_ren
  split
  · exact List.length_set
  · rfl
theorem m_setlen {fs : List g_F} {i : Nat} {x : g_F} : nI (fs.set i x).length = nI fs.length := by rw [List.length_set]

set_option maxHeartbeats 4000000 in
set_option maxRecDepth 100000 in
theorem c_Mo_actW0 (l : Launch) {D : va_G} {A : Nat → ClassId} {H0 : Heap} {b : Nat} {v0 v1 v2 v4 v5 v6 v7 : Int32} {G : m_G} {fs : List g_F} (ho : m_O D b v0 v1 v2 (nI fs.length) v4 v5 v6 v7 H0) (hR : m_R D A b G H0) {k : Nat} {o : m_P} (hfl : fs.length ≤ 60) (hfs : m_L G 0 fs) (hk : k < 200) (o1 : G 9 k = o.1) (o2 : G 10 k = o.2.1) (o3 : G 11 k = o.2.2.1) (o4 : m_e G (120 + k) o.2.2.2) (hw : o.1 = 0) (hg : g_find fs o.2.2.2.1 = none) (hlt : fs.length < 60) : Met l y_Mo_act w_Mo_act { frames := 2, cells := 0, slots := 0, locals := 48 } (x_Pc D A [.ref b, .int (nI k)] H0) (x_Q none (fun H1 => ∃ G1 : m_G, m_O D b v0 v1 v2 (nI (fs ++ [o.2.2.2]).length) v4 v5 v6 v7 H1 ∧ m_R D A b G1 H1 ∧ m_K b H0 H1 ∧ m_L G1 0 (fs ++ [o.2.2.2]) ∧ m_f60 G G1)) 0 0 (m_fq b) := by
  refine Met.ofW (cc := prog_10_method_10_code) (maxL := 5) (ret := none) (by decide) rfl ?_
  intro p e s m args below meth c s₁ B hml hv
  obtain ⟨rfl, hH, hK, hN⟩ := hv
  obtain ⟨hx, hb, hr, htb, hown, hlocks⟩ := x_start (wd := Cond.code y_Mo_act prog_10_method_10_code 5 none) B
  have hl := lv_entry ([.ref b, .int (nI k)]) (n := 5) (Nat.le_of_ble_eq_true rfl)
  rw [lg_entry_eq]
  generalize (lg_sl ([.ref b, .int (nI k)]) ++ List.replicate (5 - (lg_sl ([.ref b, .int (nI k)])).length) Slot.unset).toArray = ls at hl ⊢
  have hl : lv_has ls 5 [(0, .ref b), (1, .int (nI k))] := hl
  rw [hH]
  have hM : m_K b H0 H0 := m_K.refl
  have hL : ∀ q ∈ ([] : List Loc), m_fq b q.base := fun q hq => by cases hq
  refine lv_bipush (v := 120) hx hb d_Mo_act_0 (by decide) ?_
  refine lv_iload_n hx hb d_Mo_act_2 rfl (lv_at hl 1 rfl) ?_
  refine lv_iadd hx hb d_Mo_act_3 ?_
  refine x_top (y := nI (120 + k)) (nI_add 120 k) ?_
  refine lv_istore_n (lv' := [(2, .int (nI (120 + k))), (0, .ref b), (1, .int (nI k))]) hx hb d_Mo_act_4 rfl hl (by decide) rfl (fun ls hl => ?_)
  refine lv_aload_n hx hb d_Mo_act_5 rfl (lv_at hl 1 rfl) ?_
  refine lv_aload_n hx hb d_Mo_act_6 rfl (lv_at hl 1 rfl) ?_
  refine x_get (ci := 8) (T := T_Mo) hx hb htb u_Mo hown hK ho rfl 5 (by decide) (htb _ mw_465) (fun _ h9 => h9) (v := .ref (b + 3)) rfl d_Mo_act_7 ?_
  refine lv_iload_n hx hb d_Mo_act_10 rfl (lv_at hl 0 rfl) ?_
  refine m_ild hx hb hK hR 3 (by decide) (by decide) rfl (i := 120 + k) (show _ < 320 by omega) d_Mo_act_11 ?_
  refine x_top (y := o.2.2.2.1.1) (o4.1.1) ?_
  refine lv_aload_n hx hb d_Mo_act_12 rfl (lv_at hl 1 rfl) ?_
  refine x_get (ci := 8) (T := T_Mo) hx hb htb u_Mo hown hK ho rfl 6 (by decide) (htb _ mw_466) (fun _ h9 => h9) (v := .ref (b + 4)) rfl d_Mo_act_13 ?_
  refine lv_iload_n hx hb d_Mo_act_16 rfl (lv_at hl 0 rfl) ?_
  refine m_ild hx hb hK hR 4 (by decide) (by decide) rfl (i := 120 + k) (show _ < 320 by omega) d_Mo_act_17 ?_
  refine x_top (y := o.2.2.2.1.2.1) (o4.1.2) ?_
  refine lv_iload_n hx hb d_Mo_act_18 rfl (lv_at hl 0 rfl) ?_
  refine x_callP (va_runV (As := [.int o.2.2.2.1.1, .int o.2.2.2.1.2.1, .int (nI (120 + k))]) (rest := []) ⟨hx, hb, hml, hown, htb⟩ (c_Mo_find l ho hR (n := o.2.2.2.1) hfl hfs (by omega) o4 rfl) (x_cV 3 htb mw_570 mw_6 mw_573 mw_572 ms_13 rfl rfl (by decide +kernel) ⟨Nat.le_of_ble_eq_true rfl, Nat.le_of_ble_eq_true rfl⟩) (x_preV hK hN ho rfl) rfl rfl hl.1 rfl (lv_room (Nat.le_of_ble_eq_true rfl)) d_Mo_act_19 ⟨Nat.le_of_ble_eq_true rfl, Nat.le_of_ble_eq_true rfl⟩) ?_
  refine W.eq (g2 := F0 m 22 ls [.int (g_ixv (g_find fs o.2.2.2.1))]) rfl ?_
  refine x_top (y := (-1)) (congrArg g_ixv hg) ?_
  refine lv_istore_n (lv' := [(3, .int (-1)), (2, .int (nI (120 + k))), (0, .ref b), (1, .int (nI k))]) hx hb d_Mo_act_22 rfl hl (by decide) rfl (fun ls hl => ?_)
  refine lv_aload_n hx hb d_Mo_act_23 rfl (lv_at hl 2 rfl) ?_
  refine x_get (ci := 8) (T := T_Mo) hx hb htb u_Mo hown hK ho rfl 15 (by decide) (htb _ mw_475) (fun _ h9 => h9) (v := .ref (b + 9)) rfl d_Mo_act_24 ?_
  refine lv_iload_n hx hb d_Mo_act_27 rfl (lv_at hl 3 rfl) ?_
  refine m_ild hx hb hK hR 9 (by decide) (by decide) rfl (i := k) (show _ < 200 by omega) d_Mo_act_28 ?_
  refine x_top (y := o.1) (o1) ?_
  refine lv_if_ne (tgt := 61) hx hb d_Mo_act_29 (by decide) (fun c9 => absurd hw c9) (fun _ => ?_)
  refine lv_iload_n hx hb d_Mo_act_32 rfl (lv_at hl 0 rfl) ?_
  refine lv_iconst (v := (-1)) hx hb d_Mo_act_33 (by decide) ?_
  refine lv_icmp_ne (tgt := 52) hx hb d_Mo_act_34 (by decide) (fun c9 => absurd rfl c9) (fun _ => ?_)
  refine lv_aload_n hx hb d_Mo_act_37 rfl (lv_at hl 2 rfl) ?_
  refine x_get (ci := 8) (T := T_Mo) hx hb htb u_Mo hown hK ho rfl 11 (by decide) (htb _ mw_471) (fun _ h9 => h9) (v := .int (nI fs.length)) rfl d_Mo_act_38 ?_
  refine lv_istore_n (lv' := [(3, .int (nI fs.length)), (2, .int (nI (120 + k))), (0, .ref b), (1, .int (nI k))]) hx hb d_Mo_act_41 rfl hl (by decide) rfl (fun ls hl => ?_)
  refine lv_aload_n hx hb d_Mo_act_42 rfl (lv_at hl 2 rfl) ?_
  refine lv_dup hx hb d_Mo_act_43 rfl ?_
  refine x_get (ci := 8) (T := T_Mo) hx hb htb u_Mo hown hK ho rfl 11 (by decide) (htb _ mw_471) (fun _ h9 => h9) (v := .int (nI fs.length)) rfl d_Mo_act_44 ?_
  refine lv_iconst (v := 1) hx hb d_Mo_act_47 (by decide) ?_
  refine lv_iadd hx hb d_Mo_act_48 ?_
  refine x_top (y := nI (fs.length + 1)) (nI_1 _) ?_
  refine x_put (F := m_fq b) (ci := 8) (v := .int (nI (fs.length + 1))) (ty := .int) (T := T_Mo) hx hb htb u_Mo t_Mo t_Mo_ok n_Mo hown hK ho hL ⟨Nat.le_refl _, Nat.le_add_right _ _⟩ rfl 11 (by decide) (htb _ mw_471) (fun _ h9 => h9) rfl (by decide +kernel) rfl rfl (Nat.le_of_ble_eq_true rfl) d_Mo_act_49 (fun H1 locs hf1 hc2 hL => ?_)
  have hf1 : va_at D x_cl (b, .inr (8, [.int v0, .ref (b + 1), .ref (b + 2), .int v1, .int v2, .ref (b + 3), .ref (b + 4), .ref (b + 5), .ref (b + 6), .ref (b + 7), .ref (b + 8), .int (nI (fs.length + 1)), .int v4, .int v5, .int v6, .ref (b + 9), .ref (b + 10), .ref (b + 11), .int v7, .ref (b + 12), .ref (b + 13), .ref (b + 14), .ref (b + 15)])) H1 := hf1
  have ho : m_O D b v0 v1 v2 (nI (fs.length + 1)) v4 v5 v6 v7 H1 := hf1
  have hR := hR.but0 hc2
  have hM := hM.trans (m_K.but0 hc2)
  refine lv_aload_n hx hb d_Mo_act_52 rfl (lv_at hl 2 rfl) ?_
  refine lv_iload_n hx hb d_Mo_act_53 rfl (lv_at hl 1 rfl) ?_
  refine lv_iload_n hx hb d_Mo_act_54 rfl (lv_at hl 0 rfl) ?_
  refine x_call (F := m_fq b) (va_runV (As := [.int (nI (120 + k)), .int (nI fs.length)]) (rest := []) ⟨hx, hb, hml, hown, htb⟩ (c_Mo_copy l ho hR (i := 120 + k) (j := fs.length) (by omega) (by omega) (by omega) o4) (x_cV 2 htb mw_578 mw_6 mw_581 mw_580 ms_15 rfl rfl (by decide +kernel) ⟨Nat.le_of_ble_eq_true rfl, Nat.le_of_ble_eq_true rfl⟩) (x_preV hK hN ho rfl) rfl rfl hl.1 rfl (lv_room (Nat.le_of_ble_eq_true rfl)) d_Mo_act_55 ⟨Nat.le_of_ble_eq_true rfl, Nat.le_of_ble_eq_true rfl⟩) hL (fun q hq => hq) (fun H2 locs hP hL => ?_)
  refine W.eq (g2 := F0 m 58 ls []) rfl ?_
  obtain ⟨G1, q1, q2, q3, q4, q5⟩ := hP
  refine lv_goto (tgt := 164) hx hb d_Mo_act_58 (by decide) ?_
  exact x_vret hx hb hr hlocks ⟨G1, by rw [List.length_append]; exact q1, q2, hM.trans q3, hfs.app q5 q4, q5.f60 hlt⟩ hL (Nat.le_refl _) (Nat.le_refl _) d_Mo_act_164
theorem m_nm1 {n : Nat} (h : n < 2 ^ 31) : ¬ nI n = -1 := fun e => absurd (show nI n < 0 by rw [e]; decide) (nI_pos h)
set_option maxHeartbeats 4000000 in
set_option maxRecDepth 100000 in
theorem c_Mo_actW1 (l : Launch) {D : va_G} {A : Nat → ClassId} {H0 : Heap} {b : Nat} {v0 v1 v2 v4 v5 v6 v7 : Int32} {G : m_G} {fs : List g_F} (ho : m_O D b v0 v1 v2 (nI fs.length) v4 v5 v6 v7 H0) (hR : m_R D A b G H0) {k : Nat} {o : m_P} (hfl : fs.length ≤ 60) (hfs : m_L G 0 fs) (hk : k < 200) (o1 : G 9 k = o.1) (o2 : G 10 k = o.2.1) (o3 : G 11 k = o.2.2.1) (o4 : m_e G (120 + k) o.2.2.2) (hw : o.1 = 0) {i : Nat} (hg : g_find fs o.2.2.2.1 = some i) : Met l y_Mo_act w_Mo_act { frames := 2, cells := 0, slots := 0, locals := 48 } (x_Pc D A [.ref b, .int (nI k)] H0) (x_Q none (fun H1 => ∃ G1 : m_G, m_O D b v0 v1 v2 (nI (fs.set i o.2.2.2).length) v4 v5 v6 v7 H1 ∧ m_R D A b G1 H1 ∧ m_K b H0 H1 ∧ m_L G1 0 (fs.set i o.2.2.2) ∧ m_f60 G G1)) 0 0 (m_fq b) := by
  refine Met.ofW (cc := prog_10_method_10_code) (maxL := 5) (ret := none) (by decide) rfl ?_
  intro p e s m args below meth c s₁ B hml hv
  obtain ⟨rfl, hH, hK, hN⟩ := hv
  obtain ⟨hx, hb, hr, htb, hown, hlocks⟩ := x_start (wd := Cond.code y_Mo_act prog_10_method_10_code 5 none) B
  have hl := lv_entry ([.ref b, .int (nI k)]) (n := 5) (Nat.le_of_ble_eq_true rfl)
  rw [lg_entry_eq]
  generalize (lg_sl ([.ref b, .int (nI k)]) ++ List.replicate (5 - (lg_sl ([.ref b, .int (nI k)])).length) Slot.unset).toArray = ls at hl ⊢
  have hl : lv_has ls 5 [(0, .ref b), (1, .int (nI k))] := hl
  rw [hH]
  have hM : m_K b H0 H0 := m_K.refl
  have hL : ∀ q ∈ ([] : List Loc), m_fq b q.base := fun q hq => by cases hq
  refine lv_bipush (v := 120) hx hb d_Mo_act_0 (by decide) ?_
  refine lv_iload_n hx hb d_Mo_act_2 rfl (lv_at hl 1 rfl) ?_
  refine lv_iadd hx hb d_Mo_act_3 ?_
  refine x_top (y := nI (120 + k)) (nI_add 120 k) ?_
  refine lv_istore_n (lv' := [(2, .int (nI (120 + k))), (0, .ref b), (1, .int (nI k))]) hx hb d_Mo_act_4 rfl hl (by decide) rfl (fun ls hl => ?_)
  refine lv_aload_n hx hb d_Mo_act_5 rfl (lv_at hl 1 rfl) ?_
  refine lv_aload_n hx hb d_Mo_act_6 rfl (lv_at hl 1 rfl) ?_
  refine x_get (ci := 8) (T := T_Mo) hx hb htb u_Mo hown hK ho rfl 5 (by decide) (htb _ mw_465) (fun _ h9 => h9) (v := .ref (b + 3)) rfl d_Mo_act_7 ?_
  refine lv_iload_n hx hb d_Mo_act_10 rfl (lv_at hl 0 rfl) ?_
  refine m_ild hx hb hK hR 3 (by decide) (by decide) rfl (i := 120 + k) (show _ < 320 by omega) d_Mo_act_11 ?_
  refine x_top (y := o.2.2.2.1.1) (o4.1.1) ?_
  refine lv_aload_n hx hb d_Mo_act_12 rfl (lv_at hl 1 rfl) ?_
  refine x_get (ci := 8) (T := T_Mo) hx hb htb u_Mo hown hK ho rfl 6 (by decide) (htb _ mw_466) (fun _ h9 => h9) (v := .ref (b + 4)) rfl d_Mo_act_13 ?_
  refine lv_iload_n hx hb d_Mo_act_16 rfl (lv_at hl 0 rfl) ?_
  refine m_ild hx hb hK hR 4 (by decide) (by decide) rfl (i := 120 + k) (show _ < 320 by omega) d_Mo_act_17 ?_
  refine x_top (y := o.2.2.2.1.2.1) (o4.1.2) ?_
  refine lv_iload_n hx hb d_Mo_act_18 rfl (lv_at hl 0 rfl) ?_
  refine x_callP (va_runV (As := [.int o.2.2.2.1.1, .int o.2.2.2.1.2.1, .int (nI (120 + k))]) (rest := []) ⟨hx, hb, hml, hown, htb⟩ (c_Mo_find l ho hR (n := o.2.2.2.1) hfl hfs (by omega) o4 rfl) (x_cV 3 htb mw_570 mw_6 mw_573 mw_572 ms_13 rfl rfl (by decide +kernel) ⟨Nat.le_of_ble_eq_true rfl, Nat.le_of_ble_eq_true rfl⟩) (x_preV hK hN ho rfl) rfl rfl hl.1 rfl (lv_room (Nat.le_of_ble_eq_true rfl)) d_Mo_act_19 ⟨Nat.le_of_ble_eq_true rfl, Nat.le_of_ble_eq_true rfl⟩) ?_
  refine W.eq (g2 := F0 m 22 ls [.int (g_ixv (g_find fs o.2.2.2.1))]) rfl ?_
  have hi := g_find_lt hg
  refine x_top (y := nI i) (congrArg g_ixv hg) ?_
  refine lv_istore_n (lv' := [(3, .int (nI i)), (2, .int (nI (120 + k))), (0, .ref b), (1, .int (nI k))]) hx hb d_Mo_act_22 rfl hl (by decide) rfl (fun ls hl => ?_)
  refine lv_aload_n hx hb d_Mo_act_23 rfl (lv_at hl 2 rfl) ?_
  refine x_get (ci := 8) (T := T_Mo) hx hb htb u_Mo hown hK ho rfl 15 (by decide) (htb _ mw_475) (fun _ h9 => h9) (v := .ref (b + 9)) rfl d_Mo_act_24 ?_
  refine lv_iload_n hx hb d_Mo_act_27 rfl (lv_at hl 3 rfl) ?_
  refine m_ild hx hb hK hR 9 (by decide) (by decide) rfl (i := k) (show _ < 200 by omega) d_Mo_act_28 ?_
  refine x_top (y := o.1) (o1) ?_
  refine lv_if_ne (tgt := 61) hx hb d_Mo_act_29 (by decide) (fun c9 => absurd hw c9) (fun _ => ?_)
  refine lv_iload_n hx hb d_Mo_act_32 rfl (lv_at hl 0 rfl) ?_
  refine lv_iconst (v := (-1)) hx hb d_Mo_act_33 (by decide) ?_
  refine lv_icmp_ne (tgt := 52) hx hb d_Mo_act_34 (by decide) (fun _ => ?_) (fun c9 => absurd c9 (m_nm1 (by omega)))
  refine lv_aload_n hx hb d_Mo_act_52 rfl (lv_at hl 2 rfl) ?_
  refine lv_iload_n hx hb d_Mo_act_53 rfl (lv_at hl 1 rfl) ?_
  refine lv_iload_n hx hb d_Mo_act_54 rfl (lv_at hl 0 rfl) ?_
  refine x_call (F := m_fq b) (va_runV (As := [.int (nI (120 + k)), .int (nI i)]) (rest := []) ⟨hx, hb, hml, hown, htb⟩ (c_Mo_copy l ho hR (i := 120 + k) (j := i) (by omega) (by omega) (by omega) o4) (x_cV 2 htb mw_578 mw_6 mw_581 mw_580 ms_15 rfl rfl (by decide +kernel) ⟨Nat.le_of_ble_eq_true rfl, Nat.le_of_ble_eq_true rfl⟩) (x_preV hK hN ho rfl) rfl rfl hl.1 rfl (lv_room (Nat.le_of_ble_eq_true rfl)) d_Mo_act_55 ⟨Nat.le_of_ble_eq_true rfl, Nat.le_of_ble_eq_true rfl⟩) hL (fun q hq => hq) (fun H2 locs hP hL => ?_)
  refine W.eq (g2 := F0 m 58 ls []) rfl ?_
  obtain ⟨G1, q1, q2, q3, q4, q5⟩ := hP
  refine lv_goto (tgt := 164) hx hb d_Mo_act_58 (by decide) ?_
  exact x_vret hx hb hr hlocks ⟨G1, by rw [List.length_set]; exact q1, q2, hM.trans q3, hfs.set q5 q4, q5.f60 (by omega)⟩ hL (Nat.le_refl _) (Nat.le_refl _) d_Mo_act_164
set_option maxHeartbeats 4000000 in
set_option maxRecDepth 100000 in
theorem c_Mo_actD (l : Launch) {D : va_G} {A : Nat → ClassId} {H0 : Heap} {b : Nat} {v0 v1 v2 v4 v5 v6 v7 : Int32} {G : m_G} {fs : List g_F} (ho : m_O D b v0 v1 v2 (nI fs.length) v4 v5 v6 v7 H0) (hR : m_R D A b G H0) {k : Nat} {o : m_P} (hfl : fs.length ≤ 60) (hfs : m_L G 0 fs) (hk : k < 200) (o1 : G 9 k = o.1) (o2 : G 10 k = o.2.1) (o3 : G 11 k = o.2.2.1) (o4 : m_e G (120 + k) o.2.2.2) (hw : o.1 = 2) {i : Nat} (hg : g_find fs o.2.2.2.1 = some i) : Met l y_Mo_act w_Mo_act { frames := 2, cells := 0, slots := 0, locals := 48 } (x_Pc D A [.ref b, .int (nI k)] H0) (x_Q none (fun H1 => ∃ G1 : m_G, m_O D b v0 v1 v2 (nI (m_drop fs i).length) v4 v5 v6 v7 H1 ∧ m_R D A b G1 H1 ∧ m_K b H0 H1 ∧ m_L G1 0 (m_drop fs i) ∧ m_f60 G G1)) 0 0 (m_fq b) := by
  refine Met.ofW (cc := prog_10_method_10_code) (maxL := 5) (ret := none) (by decide) rfl ?_
  intro p e s m args below meth c s₁ B hml hv
  obtain ⟨rfl, hH, hK, hN⟩ := hv
  obtain ⟨hx, hb, hr, htb, hown, hlocks⟩ := x_start (wd := Cond.code y_Mo_act prog_10_method_10_code 5 none) B
  have hl := lv_entry ([.ref b, .int (nI k)]) (n := 5) (Nat.le_of_ble_eq_true rfl)
  rw [lg_entry_eq]
  generalize (lg_sl ([.ref b, .int (nI k)]) ++ List.replicate (5 - (lg_sl ([.ref b, .int (nI k)])).length) Slot.unset).toArray = ls at hl ⊢
  have hl : lv_has ls 5 [(0, .ref b), (1, .int (nI k))] := hl
  rw [hH]
  have hM : m_K b H0 H0 := m_K.refl
  have hL : ∀ q ∈ ([] : List Loc), m_fq b q.base := fun q hq => by cases hq
  refine lv_bipush (v := 120) hx hb d_Mo_act_0 (by decide) ?_
  refine lv_iload_n hx hb d_Mo_act_2 rfl (lv_at hl 1 rfl) ?_
  refine lv_iadd hx hb d_Mo_act_3 ?_
  refine x_top (y := nI (120 + k)) (nI_add 120 k) ?_
  refine lv_istore_n (lv' := [(2, .int (nI (120 + k))), (0, .ref b), (1, .int (nI k))]) hx hb d_Mo_act_4 rfl hl (by decide) rfl (fun ls hl => ?_)
  refine lv_aload_n hx hb d_Mo_act_5 rfl (lv_at hl 1 rfl) ?_
  refine lv_aload_n hx hb d_Mo_act_6 rfl (lv_at hl 1 rfl) ?_
  refine x_get (ci := 8) (T := T_Mo) hx hb htb u_Mo hown hK ho rfl 5 (by decide) (htb _ mw_465) (fun _ h9 => h9) (v := .ref (b + 3)) rfl d_Mo_act_7 ?_
  refine lv_iload_n hx hb d_Mo_act_10 rfl (lv_at hl 0 rfl) ?_
  refine m_ild hx hb hK hR 3 (by decide) (by decide) rfl (i := 120 + k) (show _ < 320 by omega) d_Mo_act_11 ?_
  refine x_top (y := o.2.2.2.1.1) (o4.1.1) ?_
  refine lv_aload_n hx hb d_Mo_act_12 rfl (lv_at hl 1 rfl) ?_
  refine x_get (ci := 8) (T := T_Mo) hx hb htb u_Mo hown hK ho rfl 6 (by decide) (htb _ mw_466) (fun _ h9 => h9) (v := .ref (b + 4)) rfl d_Mo_act_13 ?_
  refine lv_iload_n hx hb d_Mo_act_16 rfl (lv_at hl 0 rfl) ?_
  refine m_ild hx hb hK hR 4 (by decide) (by decide) rfl (i := 120 + k) (show _ < 320 by omega) d_Mo_act_17 ?_
  refine x_top (y := o.2.2.2.1.2.1) (o4.1.2) ?_
  refine lv_iload_n hx hb d_Mo_act_18 rfl (lv_at hl 0 rfl) ?_
  refine x_callP (va_runV (As := [.int o.2.2.2.1.1, .int o.2.2.2.1.2.1, .int (nI (120 + k))]) (rest := []) ⟨hx, hb, hml, hown, htb⟩ (c_Mo_find l ho hR (n := o.2.2.2.1) hfl hfs (by omega) o4 rfl) (x_cV 3 htb mw_570 mw_6 mw_573 mw_572 ms_13 rfl rfl (by decide +kernel) ⟨Nat.le_of_ble_eq_true rfl, Nat.le_of_ble_eq_true rfl⟩) (x_preV hK hN ho rfl) rfl rfl hl.1 rfl (lv_room (Nat.le_of_ble_eq_true rfl)) d_Mo_act_19 ⟨Nat.le_of_ble_eq_true rfl, Nat.le_of_ble_eq_true rfl⟩) ?_
  refine W.eq (g2 := F0 m 22 ls [.int (g_ixv (g_find fs o.2.2.2.1))]) rfl ?_
  have hi := g_find_lt hg
  refine x_top (y := nI i) (congrArg g_ixv hg) ?_
  refine lv_istore_n (lv' := [(3, .int (nI i)), (2, .int (nI (120 + k))), (0, .ref b), (1, .int (nI k))]) hx hb d_Mo_act_22 rfl hl (by decide) rfl (fun ls hl => ?_)
  refine lv_aload_n hx hb d_Mo_act_23 rfl (lv_at hl 2 rfl) ?_
  refine x_get (ci := 8) (T := T_Mo) hx hb htb u_Mo hown hK ho rfl 15 (by decide) (htb _ mw_475) (fun _ h9 => h9) (v := .ref (b + 9)) rfl d_Mo_act_24 ?_
  refine lv_iload_n hx hb d_Mo_act_27 rfl (lv_at hl 3 rfl) ?_
  refine m_ild hx hb hK hR 9 (by decide) (by decide) rfl (i := k) (show _ < 200 by omega) d_Mo_act_28 ?_
  refine x_top (y := o.1) (o1) ?_
  refine lv_if_ne (tgt := 61) hx hb d_Mo_act_29 (by decide) (fun _ => ?_) (fun c9 => absurd c9 (by rw [hw]; decide))
  refine lv_aload_n hx hb d_Mo_act_61 rfl (lv_at hl 2 rfl) ?_
  refine x_get (ci := 8) (T := T_Mo) hx hb htb u_Mo hown hK ho rfl 15 (by decide) (htb _ mw_475) (fun _ h9 => h9) (v := .ref (b + 9)) rfl d_Mo_act_62 ?_
  refine lv_iload_n hx hb d_Mo_act_65 rfl (lv_at hl 3 rfl) ?_
  refine m_ild hx hb hK hR 9 (by decide) (by decide) rfl (i := k) (show _ < 200 by omega) d_Mo_act_66 ?_
  refine x_top (y := o.1) (o1) ?_
  refine lv_iconst (v := 2) hx hb d_Mo_act_67 (by decide) ?_
  refine lv_icmp_ne (tgt := 79) hx hb d_Mo_act_68 (by decide) (fun c9 => absurd hw c9) (fun _ => ?_)
  refine lv_aload_n hx hb d_Mo_act_71 rfl (lv_at hl 2 rfl) ?_
  refine lv_iload_n hx hb d_Mo_act_72 rfl (lv_at hl 0 rfl) ?_
  refine x_call (F := m_fq b) (va_runV (As := [.int (nI i)]) (rest := []) ⟨hx, hb, hml, hown, htb⟩ (c_Mo_drop l ho hR (k := i) hfl hfs hi) (x_cV 1 htb mw_582 mw_6 mw_585 mw_584 ms_16 rfl rfl (by decide +kernel) ⟨Nat.le_of_ble_eq_true rfl, Nat.le_of_ble_eq_true rfl⟩) (x_preV hK hN ho rfl) rfl rfl hl.1 rfl (lv_room (Nat.le_of_ble_eq_true rfl)) d_Mo_act_73 ⟨Nat.le_of_ble_eq_true rfl, Nat.le_of_ble_eq_true rfl⟩) hL (fun q hq => hq) (fun H2 locs hP hL => ?_)
  refine W.eq (g2 := F0 m 76 ls []) rfl ?_
  obtain ⟨G1, q1, q2, q3, q4, q5⟩ := hP
  refine lv_goto (tgt := 164) hx hb d_Mo_act_76 (by decide) ?_
  exact x_vret hx hb hr hlocks ⟨G1, by rw [m_drop_len (by omega)]; exact q1, q2, hM.trans q3, q4, q5.f60 (by omega)⟩ hL (Nat.le_refl _) (Nat.le_refl _) d_Mo_act_164
set_option maxHeartbeats 4000000 in
set_option maxRecDepth 100000 in
theorem c_Mo_actR0 (l : Launch) {D : va_G} {A : Nat → ClassId} {H0 : Heap} {b : Nat} {v0 v1 v2 v4 v5 v6 v7 : Int32} {G : m_G} {fs : List g_F} (ho : m_O D b v0 v1 v2 (nI fs.length) v4 v5 v6 v7 H0) (hR : m_R D A b G H0) {k : Nat} {o : m_P} (hfl : fs.length ≤ 60) (hfs : m_L G 0 fs) (hk : k < 200) (o1 : G 9 k = o.1) (o2 : G 10 k = o.2.1) (o3 : G 11 k = o.2.2.1) (o4 : m_e G (120 + k) o.2.2.2) (hw0 : ¬ o.1 = 0) (hw2 : ¬ o.1 = 2) {i : Nat} (hg : g_find fs o.2.2.2.1 = some i) (hs : o.2.1 = o.2.2.2.1.1 ∧ o.2.2.1 = o.2.2.2.1.2.1) : Met l y_Mo_act w_Mo_act { frames := 2, cells := 0, slots := 0, locals := 48 } (x_Pc D A [.ref b, .int (nI k)] H0) (x_Q none (fun H1 => ∃ G1 : m_G, m_O D b v0 v1 v2 (nI fs.length) v4 v5 v6 v7 H1 ∧ m_R D A b G1 H1 ∧ m_K b H0 H1 ∧ m_L G1 0 fs ∧ m_f60 G G1)) 0 0 (m_fq b) := by
  refine Met.ofW (cc := prog_10_method_10_code) (maxL := 5) (ret := none) (by decide) rfl ?_
  intro p e s m args below meth c s₁ B hml hv
  obtain ⟨rfl, hH, hK, hN⟩ := hv
  obtain ⟨hx, hb, hr, htb, hown, hlocks⟩ := x_start (wd := Cond.code y_Mo_act prog_10_method_10_code 5 none) B
  have hl := lv_entry ([.ref b, .int (nI k)]) (n := 5) (Nat.le_of_ble_eq_true rfl)
  rw [lg_entry_eq]
  generalize (lg_sl ([.ref b, .int (nI k)]) ++ List.replicate (5 - (lg_sl ([.ref b, .int (nI k)])).length) Slot.unset).toArray = ls at hl ⊢
  have hl : lv_has ls 5 [(0, .ref b), (1, .int (nI k))] := hl
  rw [hH]
  have hM : m_K b H0 H0 := m_K.refl
  have hL : ∀ q ∈ ([] : List Loc), m_fq b q.base := fun q hq => by cases hq
  refine lv_bipush (v := 120) hx hb d_Mo_act_0 (by decide) ?_
  refine lv_iload_n hx hb d_Mo_act_2 rfl (lv_at hl 1 rfl) ?_
  refine lv_iadd hx hb d_Mo_act_3 ?_
  refine x_top (y := nI (120 + k)) (nI_add 120 k) ?_
  refine lv_istore_n (lv' := [(2, .int (nI (120 + k))), (0, .ref b), (1, .int (nI k))]) hx hb d_Mo_act_4 rfl hl (by decide) rfl (fun ls hl => ?_)
  refine lv_aload_n hx hb d_Mo_act_5 rfl (lv_at hl 1 rfl) ?_
  refine lv_aload_n hx hb d_Mo_act_6 rfl (lv_at hl 1 rfl) ?_
  refine x_get (ci := 8) (T := T_Mo) hx hb htb u_Mo hown hK ho rfl 5 (by decide) (htb _ mw_465) (fun _ h9 => h9) (v := .ref (b + 3)) rfl d_Mo_act_7 ?_
  refine lv_iload_n hx hb d_Mo_act_10 rfl (lv_at hl 0 rfl) ?_
  refine m_ild hx hb hK hR 3 (by decide) (by decide) rfl (i := 120 + k) (show _ < 320 by omega) d_Mo_act_11 ?_
  refine x_top (y := o.2.2.2.1.1) (o4.1.1) ?_
  refine lv_aload_n hx hb d_Mo_act_12 rfl (lv_at hl 1 rfl) ?_
  refine x_get (ci := 8) (T := T_Mo) hx hb htb u_Mo hown hK ho rfl 6 (by decide) (htb _ mw_466) (fun _ h9 => h9) (v := .ref (b + 4)) rfl d_Mo_act_13 ?_
  refine lv_iload_n hx hb d_Mo_act_16 rfl (lv_at hl 0 rfl) ?_
  refine m_ild hx hb hK hR 4 (by decide) (by decide) rfl (i := 120 + k) (show _ < 320 by omega) d_Mo_act_17 ?_
  refine x_top (y := o.2.2.2.1.2.1) (o4.1.2) ?_
  refine lv_iload_n hx hb d_Mo_act_18 rfl (lv_at hl 0 rfl) ?_
  refine x_callP (va_runV (As := [.int o.2.2.2.1.1, .int o.2.2.2.1.2.1, .int (nI (120 + k))]) (rest := []) ⟨hx, hb, hml, hown, htb⟩ (c_Mo_find l ho hR (n := o.2.2.2.1) hfl hfs (by omega) o4 rfl) (x_cV 3 htb mw_570 mw_6 mw_573 mw_572 ms_13 rfl rfl (by decide +kernel) ⟨Nat.le_of_ble_eq_true rfl, Nat.le_of_ble_eq_true rfl⟩) (x_preV hK hN ho rfl) rfl rfl hl.1 rfl (lv_room (Nat.le_of_ble_eq_true rfl)) d_Mo_act_19 ⟨Nat.le_of_ble_eq_true rfl, Nat.le_of_ble_eq_true rfl⟩) ?_
  refine W.eq (g2 := F0 m 22 ls [.int (g_ixv (g_find fs o.2.2.2.1))]) rfl ?_
  have hi := g_find_lt hg
  refine x_top (y := nI i) (congrArg g_ixv hg) ?_
  refine lv_istore_n (lv' := [(3, .int (nI i)), (2, .int (nI (120 + k))), (0, .ref b), (1, .int (nI k))]) hx hb d_Mo_act_22 rfl hl (by decide) rfl (fun ls hl => ?_)
  refine lv_aload_n hx hb d_Mo_act_23 rfl (lv_at hl 2 rfl) ?_
  refine x_get (ci := 8) (T := T_Mo) hx hb htb u_Mo hown hK ho rfl 15 (by decide) (htb _ mw_475) (fun _ h9 => h9) (v := .ref (b + 9)) rfl d_Mo_act_24 ?_
  refine lv_iload_n hx hb d_Mo_act_27 rfl (lv_at hl 3 rfl) ?_
  refine m_ild hx hb hK hR 9 (by decide) (by decide) rfl (i := k) (show _ < 200 by omega) d_Mo_act_28 ?_
  refine x_top (y := o.1) (o1) ?_
  refine lv_if_ne (tgt := 61) hx hb d_Mo_act_29 (by decide) (fun _ => ?_) (fun c9 => absurd c9 hw0)
  refine lv_aload_n hx hb d_Mo_act_61 rfl (lv_at hl 2 rfl) ?_
  refine x_get (ci := 8) (T := T_Mo) hx hb htb u_Mo hown hK ho rfl 15 (by decide) (htb _ mw_475) (fun _ h9 => h9) (v := .ref (b + 9)) rfl d_Mo_act_62 ?_
  refine lv_iload_n hx hb d_Mo_act_65 rfl (lv_at hl 3 rfl) ?_
  refine m_ild hx hb hK hR 9 (by decide) (by decide) rfl (i := k) (show _ < 200 by omega) d_Mo_act_66 ?_
  refine x_top (y := o.1) (o1) ?_
  refine lv_iconst (v := 2) hx hb d_Mo_act_67 (by decide) ?_
  refine lv_icmp_ne (tgt := 79) hx hb d_Mo_act_68 (by decide) (fun _ => ?_) (fun c9 => absurd c9 hw2)
  refine lv_aload_n hx hb d_Mo_act_79 rfl (lv_at hl 2 rfl) ?_
  refine x_get (ci := 8) (T := T_Mo) hx hb htb u_Mo hown hK ho rfl 16 (by decide) (htb _ mw_476) (fun _ h9 => h9) (v := .ref (b + 10)) rfl d_Mo_act_80 ?_
  refine lv_iload_n hx hb d_Mo_act_83 rfl (lv_at hl 3 rfl) ?_
  refine m_ild hx hb hK hR 10 (by decide) (by decide) rfl (i := k) (show _ < 200 by omega) d_Mo_act_84 ?_
  refine x_top (y := o.2.1) (o2) ?_
  refine lv_aload_n hx hb d_Mo_act_85 rfl (lv_at hl 2 rfl) ?_
  refine x_get (ci := 8) (T := T_Mo) hx hb htb u_Mo hown hK ho rfl 5 (by decide) (htb _ mw_465) (fun _ h9 => h9) (v := .ref (b + 3)) rfl d_Mo_act_86 ?_
  refine lv_iload_n hx hb d_Mo_act_89 rfl (lv_at hl 1 rfl) ?_
  refine m_ild hx hb hK hR 3 (by decide) (by decide) rfl (i := 120 + k) (show _ < 320 by omega) d_Mo_act_90 ?_
  refine x_top (y := o.2.2.2.1.1) (o4.1.1) ?_
  refine lv_icmp_ne (tgt := 109) hx hb d_Mo_act_91 (by decide) (fun c9 => absurd hs.1 c9) (fun _ => ?_)
  refine lv_aload_n hx hb d_Mo_act_94 rfl (lv_at hl 2 rfl) ?_
  refine x_get (ci := 8) (T := T_Mo) hx hb htb u_Mo hown hK ho rfl 17 (by decide) (htb _ mw_477) (fun _ h9 => h9) (v := .ref (b + 11)) rfl d_Mo_act_95 ?_
  refine lv_iload_n hx hb d_Mo_act_98 rfl (lv_at hl 3 rfl) ?_
  refine m_ild hx hb hK hR 11 (by decide) (by decide) rfl (i := k) (show _ < 200 by omega) d_Mo_act_99 ?_
  refine x_top (y := o.2.2.1) (o3) ?_
  refine lv_aload_n hx hb d_Mo_act_100 rfl (lv_at hl 2 rfl) ?_
  refine x_get (ci := 8) (T := T_Mo) hx hb htb u_Mo hown hK ho rfl 6 (by decide) (htb _ mw_466) (fun _ h9 => h9) (v := .ref (b + 4)) rfl d_Mo_act_101 ?_
  refine lv_iload_n hx hb d_Mo_act_104 rfl (lv_at hl 1 rfl) ?_
  refine m_ild hx hb hK hR 4 (by decide) (by decide) rfl (i := 120 + k) (show _ < 320 by omega) d_Mo_act_105 ?_
  refine x_top (y := o.2.2.2.1.2.1) (o4.1.2) ?_
  refine lv_icmp_eq (tgt := 164) hx hb d_Mo_act_106 (by decide) (fun _ => ?_) (fun c9 => absurd hs.2 c9)
  exact x_vret hx hb hr hlocks ⟨G, ho, hR, hM, hfs, m_f60.refl⟩ hL (Nat.le_refl _) (Nat.le_refl _) d_Mo_act_164
set_option maxHeartbeats 4000000 in
set_option maxRecDepth 100000 in
theorem c_Mo_actR1 (l : Launch) {D : va_G} {A : Nat → ClassId} {H0 : Heap} {b : Nat} {v0 v1 v2 v4 v5 v6 v7 : Int32} {G : m_G} {fs : List g_F} (ho : m_O D b v0 v1 v2 (nI fs.length) v4 v5 v6 v7 H0) (hR : m_R D A b G H0) {k : Nat} {o : m_P} (hfl : fs.length ≤ 60) (hfs : m_L G 0 fs) (hk : k < 200) (o1 : G 9 k = o.1) (o2 : G 10 k = o.2.1) (o3 : G 11 k = o.2.2.1) (o4 : m_e G (120 + k) o.2.2.2) (hw0 : ¬ o.1 = 0) (hw2 : ¬ o.1 = 2) {i : Nat} (hg : g_find fs o.2.2.2.1 = some i) (hs : ¬ (o.2.1 = o.2.2.2.1.1 ∧ o.2.2.1 = o.2.2.2.1.2.1)) (hj : g_find fs (o.2.1, o.2.2.1, o.2.2.2.1.2.2) = none) : Met l y_Mo_act w_Mo_act { frames := 2, cells := 0, slots := 0, locals := 48 } (x_Pc D A [.ref b, .int (nI k)] H0) (x_Q none (fun H1 => ∃ G1 : m_G, m_O D b v0 v1 v2 (nI (m_ren fs i o.2.1 o.2.2.1).length) v4 v5 v6 v7 H1 ∧ m_R D A b G1 H1 ∧ m_K b H0 H1 ∧ m_L G1 0 (m_ren fs i o.2.1 o.2.2.1) ∧ m_f60 G G1)) 0 0 (m_fq b) := by
  refine Met.ofW (cc := prog_10_method_10_code) (maxL := 5) (ret := none) (by decide) rfl ?_
  intro p e s m args below meth c s₁ B hml hv
  obtain ⟨rfl, hH, hK, hN⟩ := hv
  obtain ⟨hx, hb, hr, htb, hown, hlocks⟩ := x_start (wd := Cond.code y_Mo_act prog_10_method_10_code 5 none) B
  have hl := lv_entry ([.ref b, .int (nI k)]) (n := 5) (Nat.le_of_ble_eq_true rfl)
  rw [lg_entry_eq]
  generalize (lg_sl ([.ref b, .int (nI k)]) ++ List.replicate (5 - (lg_sl ([.ref b, .int (nI k)])).length) Slot.unset).toArray = ls at hl ⊢
  have hl : lv_has ls 5 [(0, .ref b), (1, .int (nI k))] := hl
  rw [hH]
  have hM : m_K b H0 H0 := m_K.refl
  have hL : ∀ q ∈ ([] : List Loc), m_fq b q.base := fun q hq => by cases hq
  refine lv_bipush (v := 120) hx hb d_Mo_act_0 (by decide) ?_
  refine lv_iload_n hx hb d_Mo_act_2 rfl (lv_at hl 1 rfl) ?_
  refine lv_iadd hx hb d_Mo_act_3 ?_
  refine x_top (y := nI (120 + k)) (nI_add 120 k) ?_
  refine lv_istore_n (lv' := [(2, .int (nI (120 + k))), (0, .ref b), (1, .int (nI k))]) hx hb d_Mo_act_4 rfl hl (by decide) rfl (fun ls hl => ?_)
  refine lv_aload_n hx hb d_Mo_act_5 rfl (lv_at hl 1 rfl) ?_
  refine lv_aload_n hx hb d_Mo_act_6 rfl (lv_at hl 1 rfl) ?_
  refine x_get (ci := 8) (T := T_Mo) hx hb htb u_Mo hown hK ho rfl 5 (by decide) (htb _ mw_465) (fun _ h9 => h9) (v := .ref (b + 3)) rfl d_Mo_act_7 ?_
  refine lv_iload_n hx hb d_Mo_act_10 rfl (lv_at hl 0 rfl) ?_
  refine m_ild hx hb hK hR 3 (by decide) (by decide) rfl (i := 120 + k) (show _ < 320 by omega) d_Mo_act_11 ?_
  refine x_top (y := o.2.2.2.1.1) (o4.1.1) ?_
  refine lv_aload_n hx hb d_Mo_act_12 rfl (lv_at hl 1 rfl) ?_
  refine x_get (ci := 8) (T := T_Mo) hx hb htb u_Mo hown hK ho rfl 6 (by decide) (htb _ mw_466) (fun _ h9 => h9) (v := .ref (b + 4)) rfl d_Mo_act_13 ?_
  refine lv_iload_n hx hb d_Mo_act_16 rfl (lv_at hl 0 rfl) ?_
  refine m_ild hx hb hK hR 4 (by decide) (by decide) rfl (i := 120 + k) (show _ < 320 by omega) d_Mo_act_17 ?_
  refine x_top (y := o.2.2.2.1.2.1) (o4.1.2) ?_
  refine lv_iload_n hx hb d_Mo_act_18 rfl (lv_at hl 0 rfl) ?_
  refine x_callP (va_runV (As := [.int o.2.2.2.1.1, .int o.2.2.2.1.2.1, .int (nI (120 + k))]) (rest := []) ⟨hx, hb, hml, hown, htb⟩ (c_Mo_find l ho hR (n := o.2.2.2.1) hfl hfs (by omega) o4 rfl) (x_cV 3 htb mw_570 mw_6 mw_573 mw_572 ms_13 rfl rfl (by decide +kernel) ⟨Nat.le_of_ble_eq_true rfl, Nat.le_of_ble_eq_true rfl⟩) (x_preV hK hN ho rfl) rfl rfl hl.1 rfl (lv_room (Nat.le_of_ble_eq_true rfl)) d_Mo_act_19 ⟨Nat.le_of_ble_eq_true rfl, Nat.le_of_ble_eq_true rfl⟩) ?_
  refine W.eq (g2 := F0 m 22 ls [.int (g_ixv (g_find fs o.2.2.2.1))]) rfl ?_
  have hi := g_find_lt hg
  obtain ⟨g, hgg⟩ := g_ex (as := fs) (j := i) hi
  have hge : m_e G i g := hfs i g hgg
  refine x_top (y := nI i) (congrArg g_ixv hg) ?_
  refine lv_istore_n (lv' := [(3, .int (nI i)), (2, .int (nI (120 + k))), (0, .ref b), (1, .int (nI k))]) hx hb d_Mo_act_22 rfl hl (by decide) rfl (fun ls hl => ?_)
  refine lv_aload_n hx hb d_Mo_act_23 rfl (lv_at hl 2 rfl) ?_
  refine x_get (ci := 8) (T := T_Mo) hx hb htb u_Mo hown hK ho rfl 15 (by decide) (htb _ mw_475) (fun _ h9 => h9) (v := .ref (b + 9)) rfl d_Mo_act_24 ?_
  refine lv_iload_n hx hb d_Mo_act_27 rfl (lv_at hl 3 rfl) ?_
  refine m_ild hx hb hK hR 9 (by decide) (by decide) rfl (i := k) (show _ < 200 by omega) d_Mo_act_28 ?_
  refine x_top (y := o.1) (o1) ?_
  refine lv_if_ne (tgt := 61) hx hb d_Mo_act_29 (by decide) (fun _ => ?_) (fun c9 => absurd c9 hw0)
  refine lv_aload_n hx hb d_Mo_act_61 rfl (lv_at hl 2 rfl) ?_
  refine x_get (ci := 8) (T := T_Mo) hx hb htb u_Mo hown hK ho rfl 15 (by decide) (htb _ mw_475) (fun _ h9 => h9) (v := .ref (b + 9)) rfl d_Mo_act_62 ?_
  refine lv_iload_n hx hb d_Mo_act_65 rfl (lv_at hl 3 rfl) ?_
  refine m_ild hx hb hK hR 9 (by decide) (by decide) rfl (i := k) (show _ < 200 by omega) d_Mo_act_66 ?_
  refine x_top (y := o.1) (o1) ?_
  refine lv_iconst (v := 2) hx hb d_Mo_act_67 (by decide) ?_
  refine lv_icmp_ne (tgt := 79) hx hb d_Mo_act_68 (by decide) (fun _ => ?_) (fun c9 => absurd c9 hw2)
  refine lv_aload_n hx hb d_Mo_act_79 rfl (lv_at hl 2 rfl) ?_
  refine x_get (ci := 8) (T := T_Mo) hx hb htb u_Mo hown hK ho rfl 16 (by decide) (htb _ mw_476) (fun _ h9 => h9) (v := .ref (b + 10)) rfl d_Mo_act_80 ?_
  refine lv_iload_n hx hb d_Mo_act_83 rfl (lv_at hl 3 rfl) ?_
  refine m_ild hx hb hK hR 10 (by decide) (by decide) rfl (i := k) (show _ < 200 by omega) d_Mo_act_84 ?_
  refine x_top (y := o.2.1) (o2) ?_
  refine lv_aload_n hx hb d_Mo_act_85 rfl (lv_at hl 2 rfl) ?_
  refine x_get (ci := 8) (T := T_Mo) hx hb htb u_Mo hown hK ho rfl 5 (by decide) (htb _ mw_465) (fun _ h9 => h9) (v := .ref (b + 3)) rfl d_Mo_act_86 ?_
  refine lv_iload_n hx hb d_Mo_act_89 rfl (lv_at hl 1 rfl) ?_
  refine m_ild hx hb hK hR 3 (by decide) (by decide) rfl (i := 120 + k) (show _ < 320 by omega) d_Mo_act_90 ?_
  refine x_top (y := o.2.2.2.1.1) (o4.1.1) ?_
  have rest : ∀ ls, lv_has ls 5 [(3, .int (nI i)), (2, .int (nI (120 + k))), (0, .ref b), (1, .int (nI k))] → W p l e (headSpec w_Mo_act { frames := 2, cells := 0, slots := 0, locals := 48 }).room s m [Value.ref b, Value.int (nI k)].toArray below meth c H0 [] 0 0 (MQ below (x_Q none (fun H1 => ∃ G1 : m_G, m_O D b v0 v1 v2 (nI (m_ren fs i o.2.1 o.2.2.1).length) v4 v5 v6 v7 H1 ∧ m_R D A b G1 H1 ∧ m_K b H0 H1 ∧ m_L G1 0 (m_ren fs i o.2.1 o.2.2.1) ∧ m_f60 G G1)) [Value.ref b, Value.int (nI k)].toArray s 0 0 (m_fq b)) (F0 m 109 ls []) := by
    intro ls hl
    refine lv_aload_n hx hb d_Mo_act_109 rfl (lv_at hl 2 rfl) ?_
    refine lv_aload_n hx hb d_Mo_act_110 rfl (lv_at hl 2 rfl) ?_
    refine x_get (ci := 8) (T := T_Mo) hx hb htb u_Mo hown hK ho rfl 16 (by decide) (htb _ mw_476) (fun _ h9 => h9) (v := .ref (b + 10)) rfl d_Mo_act_111 ?_
    refine lv_iload_n hx hb d_Mo_act_114 rfl (lv_at hl 3 rfl) ?_
    refine m_ild hx hb hK hR 10 (by decide) (by decide) rfl (i := k) (show _ < 200 by omega) d_Mo_act_115 ?_
    refine x_top (y := o.2.1) (o2) ?_
    refine lv_aload_n hx hb d_Mo_act_116 rfl (lv_at hl 2 rfl) ?_
    refine x_get (ci := 8) (T := T_Mo) hx hb htb u_Mo hown hK ho rfl 17 (by decide) (htb _ mw_477) (fun _ h9 => h9) (v := .ref (b + 11)) rfl d_Mo_act_117 ?_
    refine lv_iload_n hx hb d_Mo_act_120 rfl (lv_at hl 3 rfl) ?_
    refine m_ild hx hb hK hR 11 (by decide) (by decide) rfl (i := k) (show _ < 200 by omega) d_Mo_act_121 ?_
    refine x_top (y := o.2.2.1) (o3) ?_
    refine lv_iload_n hx hb d_Mo_act_122 rfl (lv_at hl 1 rfl) ?_
    refine x_callP (va_runV (As := [.int o.2.1, .int o.2.2.1, .int (nI (120 + k))]) (rest := []) ⟨hx, hb, hml, hown, htb⟩ (c_Mo_find l ho hR (n := (o.2.1, o.2.2.1, o.2.2.2.1.2.2)) hfl hfs (by omega) o4 rfl) (x_cV 3 htb mw_570 mw_6 mw_573 mw_572 ms_13 rfl rfl (by decide +kernel) ⟨Nat.le_of_ble_eq_true rfl, Nat.le_of_ble_eq_true rfl⟩) (x_preV hK hN ho rfl) rfl rfl hl.1 rfl (lv_room (Nat.le_of_ble_eq_true rfl)) d_Mo_act_123 ⟨Nat.le_of_ble_eq_true rfl, Nat.le_of_ble_eq_true rfl⟩) ?_
    refine W.eq (g2 := F0 m 126 ls [.int (g_ixv (g_find fs (o.2.1, o.2.2.1, o.2.2.2.1.2.2)))]) rfl ?_
    refine x_top (y := (-1)) (congrArg g_ixv hj) ?_
    refine lv_istore (lv' := [(4, .int (-1)), (3, .int (nI i)), (2, .int (nI (120 + k))), (0, .ref b), (1, .int (nI k))]) hx hb d_Mo_act_126 hl (by decide) rfl (fun ls hl => ?_)
    refine lv_aload_n hx hb d_Mo_act_128 rfl (lv_at hl 3 rfl) ?_
    refine x_get (ci := 8) (T := T_Mo) hx hb htb u_Mo hown hK ho rfl 5 (by decide) (htb _ mw_465) (fun _ h9 => h9) (v := .ref (b + 3)) rfl d_Mo_act_129 ?_
    refine lv_iload_n hx hb d_Mo_act_132 rfl (lv_at hl 1 rfl) ?_
    refine lv_aload_n hx hb d_Mo_act_133 rfl (lv_at hl 3 rfl) ?_
    refine x_get (ci := 8) (T := T_Mo) hx hb htb u_Mo hown hK ho rfl 16 (by decide) (htb _ mw_476) (fun _ h9 => h9) (v := .ref (b + 10)) rfl d_Mo_act_134 ?_
    refine lv_iload_n hx hb d_Mo_act_137 rfl (lv_at hl 4 rfl) ?_
    refine m_ild hx hb hK hR 10 (by decide) (by decide) rfl (i := k) (show _ < 200 by omega) d_Mo_act_138 ?_
    refine x_top (y := o.2.1) (o2) ?_
    refine m_ist hx hb hK ho hM hL hR 3 (by decide) (by decide) rfl (i := i) (show _ < 320 by omega) d_Mo_act_139 (fun H1 locs ho hM hL hR => ?_)
    obtain ⟨G1, eG1⟩ : ∃ G9 : m_G, G9 = m_up G 3 (upd (G 3) i o.2.1) := ⟨_, rfl⟩
    rw [← eG1] at hR
    have uG1 : ∀ j, j ≠ 3 → G1 j = G j := fun j h => by rw [eG1]; exact m_up_ne _ _ h
    have sG1 : G1 3 = upd (G 3) i o.2.1 := by rw [eG1]; exact m_up_self _ _ _
    refine lv_aload_n hx hb d_Mo_act_140 rfl (lv_at hl 3 rfl) ?_
    refine x_get (ci := 8) (T := T_Mo) hx hb htb u_Mo hown hK ho rfl 6 (by decide) (htb _ mw_466) (fun _ h9 => h9) (v := .ref (b + 4)) rfl d_Mo_act_141 ?_
    refine lv_iload_n hx hb d_Mo_act_144 rfl (lv_at hl 1 rfl) ?_
    refine lv_aload_n hx hb d_Mo_act_145 rfl (lv_at hl 3 rfl) ?_
    refine x_get (ci := 8) (T := T_Mo) hx hb htb u_Mo hown hK ho rfl 17 (by decide) (htb _ mw_477) (fun _ h9 => h9) (v := .ref (b + 11)) rfl d_Mo_act_146 ?_
    refine lv_iload_n hx hb d_Mo_act_149 rfl (lv_at hl 4 rfl) ?_
    refine m_ild hx hb hK hR 11 (by decide) (by decide) rfl (i := k) (show _ < 200 by omega) d_Mo_act_150 ?_
    refine x_top (y := o.2.2.1) ((congrFun (uG1 11 (by decide)) _).trans o3) ?_
    refine m_ist hx hb hK ho hM hL hR 4 (by decide) (by decide) rfl (i := i) (show _ < 320 by omega) d_Mo_act_151 (fun H2 locs ho hM hL hR => ?_)
    obtain ⟨G2, eG2⟩ : ∃ G9 : m_G, G9 = m_up G1 4 (upd (G1 4) i o.2.2.1) := ⟨_, rfl⟩
    rw [← eG2] at hR
    have uG2 : ∀ j, j ≠ 4 → G2 j = G1 j := fun j h => by rw [eG2]; exact m_up_ne _ _ h
    have sG2 : G2 4 = upd (G1 4) i o.2.2.1 := by rw [eG2]; exact m_up_self _ _ _
    obtain ⟨r1, r2⟩ := hge.ren eG1 eG2
    have hfs2 : m_L G2 0 (m_ren fs i o.2.1 o.2.2.1) := by rw [m_ren_some hgg]; exact hfs.set r2 r1
    refine lv_iload hx hb d_Mo_act_152 (lv_at hl 0 rfl) ?_
    refine lv_iconst (v := (-1)) hx hb d_Mo_act_154 (by decide) ?_
    refine lv_icmp_eq (tgt := 164) hx hb d_Mo_act_155 (by decide) (fun _ => ?_) (fun c9 => absurd rfl c9)
    exact x_vret hx hb hr hlocks ⟨G2, by rw [m_ren_len]; exact ho, hR, hM, hfs2, r2.f60 (by omega)⟩ hL (Nat.le_refl _) (Nat.le_refl _) d_Mo_act_164
  refine lv_icmp_ne (tgt := 109) hx hb d_Mo_act_91 (by decide) (fun c1 => ?_) (fun c1 => ?_)
  · exact rest ls (lv_sub hl [0, 1, 2, 3] rfl)
  · refine lv_aload_n hx hb d_Mo_act_94 rfl (lv_at hl 2 rfl) ?_
    refine x_get (ci := 8) (T := T_Mo) hx hb htb u_Mo hown hK ho rfl 17 (by decide) (htb _ mw_477) (fun _ h9 => h9) (v := .ref (b + 11)) rfl d_Mo_act_95 ?_
    refine lv_iload_n hx hb d_Mo_act_98 rfl (lv_at hl 3 rfl) ?_
    refine m_ild hx hb hK hR 11 (by decide) (by decide) rfl (i := k) (show _ < 200 by omega) d_Mo_act_99 ?_
    refine x_top (y := o.2.2.1) (o3) ?_
    refine lv_aload_n hx hb d_Mo_act_100 rfl (lv_at hl 2 rfl) ?_
    refine x_get (ci := 8) (T := T_Mo) hx hb htb u_Mo hown hK ho rfl 6 (by decide) (htb _ mw_466) (fun _ h9 => h9) (v := .ref (b + 4)) rfl d_Mo_act_101 ?_
    refine lv_iload_n hx hb d_Mo_act_104 rfl (lv_at hl 1 rfl) ?_
    refine m_ild hx hb hK hR 4 (by decide) (by decide) rfl (i := 120 + k) (show _ < 320 by omega) d_Mo_act_105 ?_
    refine x_top (y := o.2.2.2.1.2.1) (o4.1.2) ?_
    refine lv_icmp_eq (tgt := 164) hx hb d_Mo_act_106 (by decide) (fun c9 => absurd c9 (fun q => hs ⟨c1, q⟩)) (fun _ => ?_)
    exact rest ls (lv_sub hl [0, 1, 2, 3] rfl)
set_option maxHeartbeats 4000000 in
set_option maxRecDepth 100000 in
theorem c_Mo_actR2 (l : Launch) {D : va_G} {A : Nat → ClassId} {H0 : Heap} {b : Nat} {v0 v1 v2 v4 v5 v6 v7 : Int32} {G : m_G} {fs : List g_F} (ho : m_O D b v0 v1 v2 (nI fs.length) v4 v5 v6 v7 H0) (hR : m_R D A b G H0) {k : Nat} {o : m_P} (hfl : fs.length ≤ 60) (hfs : m_L G 0 fs) (hk : k < 200) (o1 : G 9 k = o.1) (o2 : G 10 k = o.2.1) (o3 : G 11 k = o.2.2.1) (o4 : m_e G (120 + k) o.2.2.2) (hw0 : ¬ o.1 = 0) (hw2 : ¬ o.1 = 2) {i : Nat} (hg : g_find fs o.2.2.2.1 = some i) (hs : ¬ (o.2.1 = o.2.2.2.1.1 ∧ o.2.2.1 = o.2.2.2.1.2.1)) {j : Nat} (hj : g_find fs (o.2.1, o.2.2.1, o.2.2.2.1.2.2) = some j) : Met l y_Mo_act w_Mo_act { frames := 2, cells := 0, slots := 0, locals := 48 } (x_Pc D A [.ref b, .int (nI k)] H0) (x_Q none (fun H1 => ∃ G1 : m_G, m_O D b v0 v1 v2 (nI (m_drop (m_ren fs i o.2.1 o.2.2.1) j).length) v4 v5 v6 v7 H1 ∧ m_R D A b G1 H1 ∧ m_K b H0 H1 ∧ m_L G1 0 (m_drop (m_ren fs i o.2.1 o.2.2.1) j) ∧ m_f60 G G1)) 0 0 (m_fq b) := by
  refine Met.ofW (cc := prog_10_method_10_code) (maxL := 5) (ret := none) (by decide) rfl ?_
  intro p e s m args below meth c s₁ B hml hv
  obtain ⟨rfl, hH, hK, hN⟩ := hv
  obtain ⟨hx, hb, hr, htb, hown, hlocks⟩ := x_start (wd := Cond.code y_Mo_act prog_10_method_10_code 5 none) B
  have hl := lv_entry ([.ref b, .int (nI k)]) (n := 5) (Nat.le_of_ble_eq_true rfl)
  rw [lg_entry_eq]
  generalize (lg_sl ([.ref b, .int (nI k)]) ++ List.replicate (5 - (lg_sl ([.ref b, .int (nI k)])).length) Slot.unset).toArray = ls at hl ⊢
  have hl : lv_has ls 5 [(0, .ref b), (1, .int (nI k))] := hl
  rw [hH]
  have hM : m_K b H0 H0 := m_K.refl
  have hL : ∀ q ∈ ([] : List Loc), m_fq b q.base := fun q hq => by cases hq
  refine lv_bipush (v := 120) hx hb d_Mo_act_0 (by decide) ?_
  refine lv_iload_n hx hb d_Mo_act_2 rfl (lv_at hl 1 rfl) ?_
  refine lv_iadd hx hb d_Mo_act_3 ?_
  refine x_top (y := nI (120 + k)) (nI_add 120 k) ?_
  refine lv_istore_n (lv' := [(2, .int (nI (120 + k))), (0, .ref b), (1, .int (nI k))]) hx hb d_Mo_act_4 rfl hl (by decide) rfl (fun ls hl => ?_)
  refine lv_aload_n hx hb d_Mo_act_5 rfl (lv_at hl 1 rfl) ?_
  refine lv_aload_n hx hb d_Mo_act_6 rfl (lv_at hl 1 rfl) ?_
  refine x_get (ci := 8) (T := T_Mo) hx hb htb u_Mo hown hK ho rfl 5 (by decide) (htb _ mw_465) (fun _ h9 => h9) (v := .ref (b + 3)) rfl d_Mo_act_7 ?_
  refine lv_iload_n hx hb d_Mo_act_10 rfl (lv_at hl 0 rfl) ?_
  refine m_ild hx hb hK hR 3 (by decide) (by decide) rfl (i := 120 + k) (show _ < 320 by omega) d_Mo_act_11 ?_
  refine x_top (y := o.2.2.2.1.1) (o4.1.1) ?_
  refine lv_aload_n hx hb d_Mo_act_12 rfl (lv_at hl 1 rfl) ?_
  refine x_get (ci := 8) (T := T_Mo) hx hb htb u_Mo hown hK ho rfl 6 (by decide) (htb _ mw_466) (fun _ h9 => h9) (v := .ref (b + 4)) rfl d_Mo_act_13 ?_
  refine lv_iload_n hx hb d_Mo_act_16 rfl (lv_at hl 0 rfl) ?_
  refine m_ild hx hb hK hR 4 (by decide) (by decide) rfl (i := 120 + k) (show _ < 320 by omega) d_Mo_act_17 ?_
  refine x_top (y := o.2.2.2.1.2.1) (o4.1.2) ?_
  refine lv_iload_n hx hb d_Mo_act_18 rfl (lv_at hl 0 rfl) ?_
  refine x_callP (va_runV (As := [.int o.2.2.2.1.1, .int o.2.2.2.1.2.1, .int (nI (120 + k))]) (rest := []) ⟨hx, hb, hml, hown, htb⟩ (c_Mo_find l ho hR (n := o.2.2.2.1) hfl hfs (by omega) o4 rfl) (x_cV 3 htb mw_570 mw_6 mw_573 mw_572 ms_13 rfl rfl (by decide +kernel) ⟨Nat.le_of_ble_eq_true rfl, Nat.le_of_ble_eq_true rfl⟩) (x_preV hK hN ho rfl) rfl rfl hl.1 rfl (lv_room (Nat.le_of_ble_eq_true rfl)) d_Mo_act_19 ⟨Nat.le_of_ble_eq_true rfl, Nat.le_of_ble_eq_true rfl⟩) ?_
  refine W.eq (g2 := F0 m 22 ls [.int (g_ixv (g_find fs o.2.2.2.1))]) rfl ?_
  have hi := g_find_lt hg
  obtain ⟨g, hgg⟩ := g_ex (as := fs) (j := i) hi
  have hge : m_e G i g := hfs i g hgg
  refine x_top (y := nI i) (congrArg g_ixv hg) ?_
  refine lv_istore_n (lv' := [(3, .int (nI i)), (2, .int (nI (120 + k))), (0, .ref b), (1, .int (nI k))]) hx hb d_Mo_act_22 rfl hl (by decide) rfl (fun ls hl => ?_)
  refine lv_aload_n hx hb d_Mo_act_23 rfl (lv_at hl 2 rfl) ?_
  refine x_get (ci := 8) (T := T_Mo) hx hb htb u_Mo hown hK ho rfl 15 (by decide) (htb _ mw_475) (fun _ h9 => h9) (v := .ref (b + 9)) rfl d_Mo_act_24 ?_
  refine lv_iload_n hx hb d_Mo_act_27 rfl (lv_at hl 3 rfl) ?_
  refine m_ild hx hb hK hR 9 (by decide) (by decide) rfl (i := k) (show _ < 200 by omega) d_Mo_act_28 ?_
  refine x_top (y := o.1) (o1) ?_
  refine lv_if_ne (tgt := 61) hx hb d_Mo_act_29 (by decide) (fun _ => ?_) (fun c9 => absurd c9 hw0)
  refine lv_aload_n hx hb d_Mo_act_61 rfl (lv_at hl 2 rfl) ?_
  refine x_get (ci := 8) (T := T_Mo) hx hb htb u_Mo hown hK ho rfl 15 (by decide) (htb _ mw_475) (fun _ h9 => h9) (v := .ref (b + 9)) rfl d_Mo_act_62 ?_
  refine lv_iload_n hx hb d_Mo_act_65 rfl (lv_at hl 3 rfl) ?_
  refine m_ild hx hb hK hR 9 (by decide) (by decide) rfl (i := k) (show _ < 200 by omega) d_Mo_act_66 ?_
  refine x_top (y := o.1) (o1) ?_
  refine lv_iconst (v := 2) hx hb d_Mo_act_67 (by decide) ?_
  refine lv_icmp_ne (tgt := 79) hx hb d_Mo_act_68 (by decide) (fun _ => ?_) (fun c9 => absurd c9 hw2)
  refine lv_aload_n hx hb d_Mo_act_79 rfl (lv_at hl 2 rfl) ?_
  refine x_get (ci := 8) (T := T_Mo) hx hb htb u_Mo hown hK ho rfl 16 (by decide) (htb _ mw_476) (fun _ h9 => h9) (v := .ref (b + 10)) rfl d_Mo_act_80 ?_
  refine lv_iload_n hx hb d_Mo_act_83 rfl (lv_at hl 3 rfl) ?_
  refine m_ild hx hb hK hR 10 (by decide) (by decide) rfl (i := k) (show _ < 200 by omega) d_Mo_act_84 ?_
  refine x_top (y := o.2.1) (o2) ?_
  refine lv_aload_n hx hb d_Mo_act_85 rfl (lv_at hl 2 rfl) ?_
  refine x_get (ci := 8) (T := T_Mo) hx hb htb u_Mo hown hK ho rfl 5 (by decide) (htb _ mw_465) (fun _ h9 => h9) (v := .ref (b + 3)) rfl d_Mo_act_86 ?_
  refine lv_iload_n hx hb d_Mo_act_89 rfl (lv_at hl 1 rfl) ?_
  refine m_ild hx hb hK hR 3 (by decide) (by decide) rfl (i := 120 + k) (show _ < 320 by omega) d_Mo_act_90 ?_
  refine x_top (y := o.2.2.2.1.1) (o4.1.1) ?_
  have rest : ∀ ls, lv_has ls 5 [(3, .int (nI i)), (2, .int (nI (120 + k))), (0, .ref b), (1, .int (nI k))] → W p l e (headSpec w_Mo_act { frames := 2, cells := 0, slots := 0, locals := 48 }).room s m [Value.ref b, Value.int (nI k)].toArray below meth c H0 [] 0 0 (MQ below (x_Q none (fun H1 => ∃ G1 : m_G, m_O D b v0 v1 v2 (nI (m_drop (m_ren fs i o.2.1 o.2.2.1) j).length) v4 v5 v6 v7 H1 ∧ m_R D A b G1 H1 ∧ m_K b H0 H1 ∧ m_L G1 0 (m_drop (m_ren fs i o.2.1 o.2.2.1) j) ∧ m_f60 G G1)) [Value.ref b, Value.int (nI k)].toArray s 0 0 (m_fq b)) (F0 m 109 ls []) := by
    intro ls hl
    refine lv_aload_n hx hb d_Mo_act_109 rfl (lv_at hl 2 rfl) ?_
    refine lv_aload_n hx hb d_Mo_act_110 rfl (lv_at hl 2 rfl) ?_
    refine x_get (ci := 8) (T := T_Mo) hx hb htb u_Mo hown hK ho rfl 16 (by decide) (htb _ mw_476) (fun _ h9 => h9) (v := .ref (b + 10)) rfl d_Mo_act_111 ?_
    refine lv_iload_n hx hb d_Mo_act_114 rfl (lv_at hl 3 rfl) ?_
    refine m_ild hx hb hK hR 10 (by decide) (by decide) rfl (i := k) (show _ < 200 by omega) d_Mo_act_115 ?_
    refine x_top (y := o.2.1) (o2) ?_
    refine lv_aload_n hx hb d_Mo_act_116 rfl (lv_at hl 2 rfl) ?_
    refine x_get (ci := 8) (T := T_Mo) hx hb htb u_Mo hown hK ho rfl 17 (by decide) (htb _ mw_477) (fun _ h9 => h9) (v := .ref (b + 11)) rfl d_Mo_act_117 ?_
    refine lv_iload_n hx hb d_Mo_act_120 rfl (lv_at hl 3 rfl) ?_
    refine m_ild hx hb hK hR 11 (by decide) (by decide) rfl (i := k) (show _ < 200 by omega) d_Mo_act_121 ?_
    refine x_top (y := o.2.2.1) (o3) ?_
    refine lv_iload_n hx hb d_Mo_act_122 rfl (lv_at hl 1 rfl) ?_
    refine x_callP (va_runV (As := [.int o.2.1, .int o.2.2.1, .int (nI (120 + k))]) (rest := []) ⟨hx, hb, hml, hown, htb⟩ (c_Mo_find l ho hR (n := (o.2.1, o.2.2.1, o.2.2.2.1.2.2)) hfl hfs (by omega) o4 rfl) (x_cV 3 htb mw_570 mw_6 mw_573 mw_572 ms_13 rfl rfl (by decide +kernel) ⟨Nat.le_of_ble_eq_true rfl, Nat.le_of_ble_eq_true rfl⟩) (x_preV hK hN ho rfl) rfl rfl hl.1 rfl (lv_room (Nat.le_of_ble_eq_true rfl)) d_Mo_act_123 ⟨Nat.le_of_ble_eq_true rfl, Nat.le_of_ble_eq_true rfl⟩) ?_
    refine W.eq (g2 := F0 m 126 ls [.int (g_ixv (g_find fs (o.2.1, o.2.2.1, o.2.2.2.1.2.2)))]) rfl ?_
    refine x_top (y := nI j) (congrArg g_ixv hj) ?_
    refine lv_istore (lv' := [(4, .int (nI j)), (3, .int (nI i)), (2, .int (nI (120 + k))), (0, .ref b), (1, .int (nI k))]) hx hb d_Mo_act_126 hl (by decide) rfl (fun ls hl => ?_)
    refine lv_aload_n hx hb d_Mo_act_128 rfl (lv_at hl 3 rfl) ?_
    refine x_get (ci := 8) (T := T_Mo) hx hb htb u_Mo hown hK ho rfl 5 (by decide) (htb _ mw_465) (fun _ h9 => h9) (v := .ref (b + 3)) rfl d_Mo_act_129 ?_
    refine lv_iload_n hx hb d_Mo_act_132 rfl (lv_at hl 1 rfl) ?_
    refine lv_aload_n hx hb d_Mo_act_133 rfl (lv_at hl 3 rfl) ?_
    refine x_get (ci := 8) (T := T_Mo) hx hb htb u_Mo hown hK ho rfl 16 (by decide) (htb _ mw_476) (fun _ h9 => h9) (v := .ref (b + 10)) rfl d_Mo_act_134 ?_
    refine lv_iload_n hx hb d_Mo_act_137 rfl (lv_at hl 4 rfl) ?_
    refine m_ild hx hb hK hR 10 (by decide) (by decide) rfl (i := k) (show _ < 200 by omega) d_Mo_act_138 ?_
    refine x_top (y := o.2.1) (o2) ?_
    refine m_ist hx hb hK ho hM hL hR 3 (by decide) (by decide) rfl (i := i) (show _ < 320 by omega) d_Mo_act_139 (fun H1 locs ho hM hL hR => ?_)
    obtain ⟨G1, eG1⟩ : ∃ G9 : m_G, G9 = m_up G 3 (upd (G 3) i o.2.1) := ⟨_, rfl⟩
    rw [← eG1] at hR
    have uG1 : ∀ j, j ≠ 3 → G1 j = G j := fun j h => by rw [eG1]; exact m_up_ne _ _ h
    have sG1 : G1 3 = upd (G 3) i o.2.1 := by rw [eG1]; exact m_up_self _ _ _
    refine lv_aload_n hx hb d_Mo_act_140 rfl (lv_at hl 3 rfl) ?_
    refine x_get (ci := 8) (T := T_Mo) hx hb htb u_Mo hown hK ho rfl 6 (by decide) (htb _ mw_466) (fun _ h9 => h9) (v := .ref (b + 4)) rfl d_Mo_act_141 ?_
    refine lv_iload_n hx hb d_Mo_act_144 rfl (lv_at hl 1 rfl) ?_
    refine lv_aload_n hx hb d_Mo_act_145 rfl (lv_at hl 3 rfl) ?_
    refine x_get (ci := 8) (T := T_Mo) hx hb htb u_Mo hown hK ho rfl 17 (by decide) (htb _ mw_477) (fun _ h9 => h9) (v := .ref (b + 11)) rfl d_Mo_act_146 ?_
    refine lv_iload_n hx hb d_Mo_act_149 rfl (lv_at hl 4 rfl) ?_
    refine m_ild hx hb hK hR 11 (by decide) (by decide) rfl (i := k) (show _ < 200 by omega) d_Mo_act_150 ?_
    refine x_top (y := o.2.2.1) ((congrFun (uG1 11 (by decide)) _).trans o3) ?_
    refine m_ist hx hb hK ho hM hL hR 4 (by decide) (by decide) rfl (i := i) (show _ < 320 by omega) d_Mo_act_151 (fun H2 locs ho hM hL hR => ?_)
    obtain ⟨G2, eG2⟩ : ∃ G9 : m_G, G9 = m_up G1 4 (upd (G1 4) i o.2.2.1) := ⟨_, rfl⟩
    rw [← eG2] at hR
    have uG2 : ∀ j, j ≠ 4 → G2 j = G1 j := fun j h => by rw [eG2]; exact m_up_ne _ _ h
    have sG2 : G2 4 = upd (G1 4) i o.2.2.1 := by rw [eG2]; exact m_up_self _ _ _
    obtain ⟨r1, r2⟩ := hge.ren eG1 eG2
    have hfs2 : m_L G2 0 (m_ren fs i o.2.1 o.2.2.1) := by rw [m_ren_some hgg]; exact hfs.set r2 r1
    refine lv_iload hx hb d_Mo_act_152 (lv_at hl 0 rfl) ?_
    refine lv_iconst (v := (-1)) hx hb d_Mo_act_154 (by decide) ?_
    have hjl := g_find_lt hj
    refine lv_icmp_eq (tgt := 164) hx hb d_Mo_act_155 (by decide) (fun c9 => absurd c9 (m_nm1 (by omega))) (fun _ => ?_)
    refine lv_aload_n hx hb d_Mo_act_158 rfl (lv_at hl 3 rfl) ?_
    refine lv_iload hx hb d_Mo_act_159 (lv_at hl 0 rfl) ?_
    have el : (m_ren fs i o.2.1 o.2.2.1).length = fs.length := m_ren_len
    refine x_call (F := m_fq b) (va_runV (As := [.int (nI j)]) (rest := []) ⟨hx, hb, hml, hown, htb⟩ (c_Mo_drop l (fs := m_ren fs i o.2.1 o.2.2.1) (k := j) (by rw [el]; exact ho) hR (by omega) hfs2 (by omega)) (x_cV 1 htb mw_582 mw_6 mw_585 mw_584 ms_16 rfl rfl (by decide +kernel) ⟨Nat.le_of_ble_eq_true rfl, Nat.le_of_ble_eq_true rfl⟩) (x_preV hK hN ho rfl) rfl rfl hl.1 rfl (lv_room (Nat.le_of_ble_eq_true rfl)) d_Mo_act_161 ⟨Nat.le_of_ble_eq_true rfl, Nat.le_of_ble_eq_true rfl⟩) hL (fun q hq => hq) (fun H3 locs hP hL => ?_)
    refine W.eq (g2 := F0 m 164 ls []) rfl ?_
    obtain ⟨G3, q1, q2, q3, q4, q5⟩ := hP
    exact x_vret hx hb hr hlocks ⟨G3, by rw [m_drop_len (by omega)]; exact q1, q2, hM.trans q3, q4, (r2.f60 (by omega)).trans (q5.f60 (by omega))⟩ hL (Nat.le_refl _) (Nat.le_refl _) d_Mo_act_164
  refine lv_icmp_ne (tgt := 109) hx hb d_Mo_act_91 (by decide) (fun c1 => ?_) (fun c1 => ?_)
  · exact rest ls (lv_sub hl [0, 1, 2, 3] rfl)
  · refine lv_aload_n hx hb d_Mo_act_94 rfl (lv_at hl 2 rfl) ?_
    refine x_get (ci := 8) (T := T_Mo) hx hb htb u_Mo hown hK ho rfl 17 (by decide) (htb _ mw_477) (fun _ h9 => h9) (v := .ref (b + 11)) rfl d_Mo_act_95 ?_
    refine lv_iload_n hx hb d_Mo_act_98 rfl (lv_at hl 3 rfl) ?_
    refine m_ild hx hb hK hR 11 (by decide) (by decide) rfl (i := k) (show _ < 200 by omega) d_Mo_act_99 ?_
    refine x_top (y := o.2.2.1) (o3) ?_
    refine lv_aload_n hx hb d_Mo_act_100 rfl (lv_at hl 2 rfl) ?_
    refine x_get (ci := 8) (T := T_Mo) hx hb htb u_Mo hown hK ho rfl 6 (by decide) (htb _ mw_466) (fun _ h9 => h9) (v := .ref (b + 4)) rfl d_Mo_act_101 ?_
    refine lv_iload_n hx hb d_Mo_act_104 rfl (lv_at hl 1 rfl) ?_
    refine m_ild hx hb hK hR 4 (by decide) (by decide) rfl (i := 120 + k) (show _ < 320 by omega) d_Mo_act_105 ?_
    refine x_top (y := o.2.2.2.1.2.1) (o4.1.2) ?_
    refine lv_icmp_eq (tgt := 164) hx hb d_Mo_act_106 (by decide) (fun c9 => absurd c9 (fun q => hs ⟨c1, q⟩)) (fun _ => ?_)
    exact rest ls (lv_sub hl [0, 1, 2, 3] rfl)
/-- an operation that can be done there -/
def m_ok (fs : List g_F) (o : m_P) : Prop := (o.1 = 0 ∧ fs.length < 60) ∨ ∃ i, g_find fs o.2.2.2.1 = some i
theorem c_Mo_act (l : Launch) {D : va_G} {A : Nat → ClassId} {H0 : Heap} {b : Nat} {v0 v1 v2 v4 v5 v6 v7 : Int32} {G : m_G} {fs : List g_F} (ho : m_O D b v0 v1 v2 (nI fs.length) v4 v5 v6 v7 H0) (hR : m_R D A b G H0) {k : Nat} {o : m_P} (hfl : fs.length ≤ 60) (hfs : m_L G 0 fs) (hk : k < 200) (o1 : G 9 k = o.1) (o2 : G 10 k = o.2.1) (o3 : G 11 k = o.2.2.1) (o4 : m_e G (120 + k) o.2.2.2) (hok : m_ok fs o) : Met l y_Mo_act w_Mo_act { frames := 2, cells := 0, slots := 0, locals := 48 } (x_Pc D A [.ref b, .int (nI k)] H0) (x_Q none (fun H1 => ∃ G1 : m_G, m_O D b v0 v1 v2 (nI (m_act fs o).length) v4 v5 v6 v7 H1 ∧ m_R D A b G1 H1 ∧ m_K b H0 H1 ∧ m_L G1 0 (m_act fs o) ∧ m_f60 G G1)) 0 0 (m_fq b) := by
  by_cases hw : o.1 = 0
  · cases hg : g_find fs o.2.2.2.1 with
    | none =>
      have e : m_act fs o = fs ++ [o.2.2.2] := by unfold m_act; rw [if_pos hw, hg]
      rw [e]
      refine c_Mo_actW0 l ho hR hfl hfs hk o1 o2 o3 o4 hw hg ?_
      rcases hok with h | ⟨i, h⟩
      · exact h.2
      · rw [hg] at h; cases h
    | some i =>
      have e : m_act fs o = fs.set i o.2.2.2 := by unfold m_act; rw [if_pos hw, hg]
      rw [e]
      exact c_Mo_actW1 l ho hR hfl hfs hk o1 o2 o3 o4 hw hg
  · obtain ⟨i, hg⟩ : ∃ i, g_find fs o.2.2.2.1 = some i := hok.resolve_left (fun q => hw q.1)
    by_cases hw2 : o.1 = 2
    · have e : m_act fs o = m_drop fs i := by unfold m_act; rw [if_neg hw, if_pos hw2, hg]
      rw [e]
      exact c_Mo_actD l ho hR hfl hfs hk o1 o2 o3 o4 hw2 hg
    · by_cases hs : o.2.1 = o.2.2.2.1.1 ∧ o.2.2.1 = o.2.2.2.1.2.1
      · have e : m_act fs o = fs := by unfold m_act; rw [if_neg hw, if_neg hw2, if_pos hs]
        rw [e]
        exact c_Mo_actR0 l ho hR hfl hfs hk o1 o2 o3 o4 hw hw2 hg hs
      · cases hj : g_find fs (o.2.1, o.2.2.1, o.2.2.2.1.2.2) with
        | none =>
          have e : m_act fs o = m_ren fs i o.2.1 o.2.2.1 := by unfold m_act; rw [if_neg hw, if_neg hw2, if_neg hs, hg]; dsimp only; rw [hj]
          rw [e]
          exact c_Mo_actR1 l ho hR hfl hfs hk o1 o2 o3 o4 hw hw2 hg hs hj
        | some j =>
          have e : m_act fs o = m_drop (m_ren fs i o.2.1 o.2.2.1) j := by unfold m_act; rw [if_neg hw, if_neg hw2, if_neg hs, hg]; dsimp only; rw [hj]
          rw [e]
          exact c_Mo_actR2 l ho hR hfl hfs hk o1 o2 o3 o4 hw hw2 hg hs hj
end
section
def m_o (G : m_G) (i : Nat) (o : m_P) : Prop := G 9 i = o.1 ∧ G 10 i = o.2.1 ∧ G 11 i = o.2.2.1 ∧ m_e G (120 + i) o.2.2.2
def m_ops (G : m_G) (os : List m_P) : Prop := ∀ (i : Nat) (o : m_P), os[i]? = some o → m_o G i o
def m_row (g : Nat → Int32) (us : List Nat) (n : Nat) : Prop := us.length ≤ n ∧ (∀ k, k < us.length → g k = sb_b (us.getD k 0)) ∧ ∀ u ∈ us, u < 256
def m_t (G : m_G) (i : Nat) (t : Int32 × List Nat) : Prop := G 12 i = t.1 ∧ G 13 i = nI t.2.length ∧ t.2.length ≤ 100 ∧ (∀ k, k < t.2.length → G 15 (100 * i + k) = sb_b (t.2.getD k 0)) ∧ ∀ u ∈ t.2, u < 256
def m_told (G : m_G) (ts : List (Int32 × List Nat)) : Prop := ∀ (i : Nat) (t : Int32 × List Nat), ts[i]? = some t → m_t G i t
/-- what the reference holds: tape, path, files, as kept, operations, how many, what was listed -/
abbrev m_S : Type := List Nat × List Nat × List g_F × List g_F × List m_P × Nat × List (Int32 × List Nat)
def m_V (G : m_G) (S : m_S) : Prop := m_row (G 1) S.1 400 ∧ m_row (G 2) S.2.1 100 ∧ (m_L G 0 S.2.2.1 ∧ S.2.2.1.length ≤ 60) ∧ (m_L G 60 S.2.2.2.1 ∧ S.2.2.2.1.length ≤ 60) ∧ (m_ops G S.2.2.2.2.1 ∧ S.2.2.2.2.1.length ≤ 200) ∧ (m_told G S.2.2.2.2.2.2 ∧ S.2.2.2.2.2.2.length ≤ 60)
def m_M (D : va_G) (A : Nat → ClassId) (b : Nat) (th : Int32) (S : m_S) (H : Heap) : Prop := ∃ G : m_G, m_O D b th (nI S.1.length) (nI S.2.1.length) (nI S.2.2.1.length) (nI S.2.2.2.1.length) (nI S.2.2.2.2.1.length) (nI S.2.2.2.2.2.1) (nI S.2.2.2.2.2.2.length) H ∧ m_R D A b G H ∧ m_V G S
/-- what an operation more may change -/
def m_fa (d : Nat) (G G' : m_G) : Prop := (∀ e, 60 ≤ e → (∀ k, 3 ≤ k → k ≤ 6 → G' k e = G k e) ∧ (∀ k, k < 100 → G' 7 (100 * e + k) = G 7 (100 * e + k)) ∧ (∀ k, k < 400 → G' 8 (400 * e + k) = G 8 (400 * e + k))) ∧ (∀ k, (k < 3 ∨ 11 < k) → G' k = G k) ∧ ∀ k i, 9 ≤ k → k ≤ 11 → i ≠ d → G' k i = G k i
theorem m_fa.e {d e : Nat} {G G' : m_G} {f : g_F} (h : m_fa d G G') (he : 60 ≤ e) (hf : m_e G e f) : m_e G' e f := by
  obtain ⟨a, b, c⟩ := h.1 e he
  obtain ⟨⟨f1, f2⟩, ⟨f3, f4, f5, f6⟩, f7, f8, f9, f10⟩ := hf
  exact ⟨⟨(a 3 (by decide) (by decide)).trans f1, (a 4 (by decide) (by decide)).trans f2⟩, ⟨(a 5 (by decide) (by decide)).trans f3, f4, fun k hk => (b k (by omega)).trans (f5 k hk), f6⟩, (a 6 (by decide) (by decide)).trans f7, f8, fun k hk => (c k (by omega)).trans (f9 k hk), f10⟩
theorem m_fa.o {d i : Nat} {G G' : m_G} {o : m_P} (h : m_fa d G G') (hi : i ≠ d) (ho : m_o G i o) : m_o G' i o := ⟨(h.2.2 9 i (by decide) (by decide) hi).trans ho.1, (h.2.2 10 i (by decide) (by decide) hi).trans ho.2.1, (h.2.2 11 i (by decide) (by decide) hi).trans ho.2.2.1, h.e (by omega) ho.2.2.2⟩
theorem m_fa.f60 {d : Nat} {G G1 G2 : m_G} (h : m_fa d G G1) (h2 : m_f60 G1 G2) : m_fa d G G2 := ⟨fun e he => ⟨fun k a b => ((h2.1 e he).1 k a b).trans ((h.1 e he).1 k a b), fun k a => ((h2.1 e he).2.1 k a).trans ((h.1 e he).2.1 k a), fun k a => ((h2.1 e he).2.2 k a).trans ((h.1 e he).2.2 k a)⟩, fun k hk => (h2.2 k (by omega)).trans (h.2.1 k hk), fun k i h1 h3 hi => (congrFun (h2.2 k (by omega)) i).trans (h.2.2 k i h1 h3 hi)⟩
theorem m_told.eq {G G' : m_G} {ts : List (Int32 × List Nat)} (h : m_told G ts) (h12 : G' 12 = G 12) (h13 : G' 13 = G 13) (h15 : G' 15 = G 15) : m_told G' ts := fun i t ht => by
  have := h i t ht
  unfold m_t at *
  rw [h12, h13, h15]
  exact this
theorem m_row.eq {g g' : Nat → Int32} {us : List Nat} {n : Nat} (h : m_row g us n) (e : g' = g) : m_row g' us n := by rw [e]; exact h
/-- an operation more: the rows behind it -/
theorem m_V.push {G G0 G1 : m_G} {S : m_S} {us : List Nat} {o : m_P} (hV : m_V G S) (hlt : S.2.2.2.2.1.length < 200) (hu : us = [] ∨ us = S.1) (h0 : m_fr (120 + S.2.2.2.2.1.length) G G0) (h1 : m_fa S.2.2.2.2.1.length G0 G1) (ho : m_o G1 S.2.2.2.2.1.length o) (hl : m_L G1 0 (m_act S.2.2.1 o)) (hlen : (m_act S.2.2.1 o).length ≤ 60) :
    m_V G1 (us, S.2.1, m_act S.2.2.1 o, S.2.2.2.1, S.2.2.2.2.1 ++ [o], S.2.2.2.2.2.1 + 1, S.2.2.2.2.2.2) := by
  obtain ⟨v1, v2, ⟨v3, v4⟩, ⟨v5, v6⟩, ⟨v7, v8⟩, v9, v10⟩ := hV
  have er : ∀ k, (k < 3 ∨ 11 < k) → G1 k = G k := fun k hk => (h1.2.1 k hk).trans (h0.2 k (by omega))
  refine ⟨?_, v2.eq (er 2 (by decide)), ⟨hl, hlen⟩, ⟨fun i f hi => ?_, v6⟩, ⟨fun i p hi => ?_, ?_⟩, v9.eq (er 12 (by decide)) (er 13 (by decide)) (er 15 (by decide)), v10⟩
  · rcases hu with e | e
    · rw [e]
      exact ⟨Nat.zero_le _, fun k hk => absurd hk (Nat.not_lt_zero k), fun u hu => by cases hu⟩
    · rw [e]
      exact v1.eq (er 1 (by decide))
  · have hil := (List.getElem?_eq_some_iff.mp hi).1
    exact h1.e (by omega) (h0.e (by dsimp only at hil; omega) (v5 i f hi))
  · dsimp only at hi
    rcases Nat.lt_or_ge i S.2.2.2.2.1.length with q | q
    · rw [List.getElem?_append_left q] at hi
      have h3 := v7 i p hi
      refine h1.o (by omega) ⟨?_, ?_, ?_, h0.e (by omega) h3.2.2.2⟩
      · rw [h0.2 9 (by decide)]; exact h3.1
      · rw [h0.2 10 (by decide)]; exact h3.2.1
      · rw [h0.2 11 (by decide)]; exact h3.2.2.1
    · rw [List.getElem?_append_right q] at hi
      have h3 : i - S.2.2.2.2.1.length = 0 := by
        have := (List.getElem?_eq_some_iff.mp hi).1
        simp at this
        exact this
      rw [h3] at hi
      cases hi
      have h4 : i = S.2.2.2.2.1.length := by omega
      rw [h4]
      exact ho
  · show (S.2.2.2.2.1 ++ [o]).length ≤ 200
    rw [List.length_append]
    exact hlt
theorem m_act_len {fs : List g_F} {o : m_P} (h : m_ok fs o) (hl : fs.length ≤ 60) : (m_act fs o).length ≤ 60 := by
  unfold m_act
  split
  · rename_i hw
    split
    · rw [List.length_set]; exact hl
    · rename_i hg
      rcases h with h | ⟨i, h⟩
      · rw [List.length_append]; exact h.2
      · rw [hg] at h; cases h
  · split
    · split
      · rename_i i hg
        have := g_find_lt hg
        rw [m_drop_len (by omega)]; omega
      · exact hl
    · split
      · exact hl
      · split
        · rename_i i hg
          have := g_find_lt hg
          split
          · rw [m_drop_len (by rw [m_ren_len]; omega), m_ren_len]; omega
          · rw [m_ren_len]; exact hl
        · exact hl

set_option maxHeartbeats 4000000 in
set_option maxRecDepth 100000 in
theorem c_Mo_add (l : Launch) {D : va_G} {A : Nat → ClassId} {H0 : Heap} {b : Nat} {v0 v1 v2 v4 v7 : Int32} {G : m_G} {fs : List g_F} {d al : Nat} (ho : m_O D b v0 v1 v2 (nI fs.length) v4 (nI d) (nI al) v7 H0) (hR : m_R D A b G H0) {o : m_P} (xx : Int32) (hfl : fs.length ≤ 60) (hfs : m_L G 0 fs) (hd : d < 200) (o4 : m_e G (120 + d) o.2.2.2) (hok : m_ok fs o) : Met l y_Mo_add w_Mo_add { frames := 3, cells := 0, slots := 0, locals := 72 } (x_Pc D A [.ref b, .int o.1, .int xx, .int o.2.1, .int o.2.2.1] H0) (x_Q none (fun H1 => ∃ G1 : m_G, m_O D b v0 v1 v2 (nI (m_act fs o).length) v4 (nI (d + 1)) (nI (al + 1)) v7 H1 ∧ m_R D A b G1 H1 ∧ m_K b H0 H1 ∧ m_L G1 0 (m_act fs o) ∧ m_o G1 d o ∧ m_fa d G G1)) 0 0 (m_fq b) := by
  refine Met.ofW (cc := prog_10_method_11_code) (maxL := 5) (ret := none) (by decide) rfl ?_
  intro p e s m args below meth c s₁ B hml hv
  obtain ⟨rfl, hH, hK, hN⟩ := hv
  obtain ⟨hx, hb, hr, htb, hown, hlocks⟩ := x_start (wd := Cond.code y_Mo_add prog_10_method_11_code 5 none) B
  have hl := lv_entry ([.ref b, .int o.1, .int xx, .int o.2.1, .int o.2.2.1]) (n := 5) (Nat.le_of_ble_eq_true rfl)
  rw [lg_entry_eq]
  generalize (lg_sl ([.ref b, .int o.1, .int xx, .int o.2.1, .int o.2.2.1]) ++ List.replicate (5 - (lg_sl ([.ref b, .int o.1, .int xx, .int o.2.1, .int o.2.2.1])).length) Slot.unset).toArray = ls at hl ⊢
  have hl : lv_has ls 5 [(0, .ref b), (1, .int o.1), (2, .int xx), (3, .int o.2.1), (4, .int o.2.2.1)] := hl
  rw [hH]
  have hM : m_K b H0 H0 := m_K.refl
  have hL : ∀ q ∈ ([] : List Loc), m_fq b q.base := fun q hq => by cases hq
  refine lv_aload_n hx hb d_Mo_add_0 rfl (lv_at hl 0 rfl) ?_
  refine x_get (ci := 8) (T := T_Mo) hx hb htb u_Mo hown hK ho rfl 15 (by decide) (htb _ mw_475) (fun _ h9 => h9) (v := .ref (b + 9)) rfl d_Mo_add_1 ?_
  refine lv_aload_n hx hb d_Mo_add_4 rfl (lv_at hl 0 rfl) ?_
  refine x_get (ci := 8) (T := T_Mo) hx hb htb u_Mo hown hK ho rfl 13 (by decide) (htb _ mw_473) (fun _ h9 => h9) (v := .int (nI d)) rfl d_Mo_add_5 ?_
  refine lv_iload_n hx hb d_Mo_add_8 rfl (lv_at hl 1 rfl) ?_
  refine m_ist hx hb hK ho hM hL hR 9 (by decide) (by decide) rfl (i := d) (show _ < 200 by omega) d_Mo_add_9 (fun Ha0 locs ho hM hL hR => ?_)
  obtain ⟨G1, eG1⟩ : ∃ G9 : m_G, G9 = m_up G 9 (upd (G 9) d o.1) := ⟨_, rfl⟩
  rw [← eG1] at hR
  have uG1 : ∀ j, j ≠ 9 → G1 j = G j := fun j h => by rw [eG1]; exact m_up_ne _ _ h
  have sG1 : G1 9 = upd (G 9) d o.1 := by rw [eG1]; exact m_up_self _ _ _
  refine lv_aload_n hx hb d_Mo_add_10 rfl (lv_at hl 0 rfl) ?_
  refine x_get (ci := 8) (T := T_Mo) hx hb htb u_Mo hown hK ho rfl 16 (by decide) (htb _ mw_476) (fun _ h9 => h9) (v := .ref (b + 10)) rfl d_Mo_add_11 ?_
  refine lv_aload_n hx hb d_Mo_add_14 rfl (lv_at hl 0 rfl) ?_
  refine x_get (ci := 8) (T := T_Mo) hx hb htb u_Mo hown hK ho rfl 13 (by decide) (htb _ mw_473) (fun _ h9 => h9) (v := .int (nI d)) rfl d_Mo_add_15 ?_
  refine lv_iload_n hx hb d_Mo_add_18 rfl (lv_at hl 3 rfl) ?_
  refine m_ist hx hb hK ho hM hL hR 10 (by decide) (by decide) rfl (i := d) (show _ < 200 by omega) d_Mo_add_19 (fun Ha1 locs ho hM hL hR => ?_)
  obtain ⟨G2, eG2⟩ : ∃ G9 : m_G, G9 = m_up G1 10 (upd (G1 10) d o.2.1) := ⟨_, rfl⟩
  rw [← eG2] at hR
  have uG2 : ∀ j, j ≠ 10 → G2 j = G1 j := fun j h => by rw [eG2]; exact m_up_ne _ _ h
  have sG2 : G2 10 = upd (G1 10) d o.2.1 := by rw [eG2]; exact m_up_self _ _ _
  refine lv_aload_n hx hb d_Mo_add_20 rfl (lv_at hl 0 rfl) ?_
  refine x_get (ci := 8) (T := T_Mo) hx hb htb u_Mo hown hK ho rfl 17 (by decide) (htb _ mw_477) (fun _ h9 => h9) (v := .ref (b + 11)) rfl d_Mo_add_21 ?_
  refine lv_aload_n hx hb d_Mo_add_24 rfl (lv_at hl 0 rfl) ?_
  refine x_get (ci := 8) (T := T_Mo) hx hb htb u_Mo hown hK ho rfl 13 (by decide) (htb _ mw_473) (fun _ h9 => h9) (v := .int (nI d)) rfl d_Mo_add_25 ?_
  refine lv_iload hx hb d_Mo_add_28 (lv_at hl 4 rfl) ?_
  refine m_ist hx hb hK ho hM hL hR 11 (by decide) (by decide) rfl (i := d) (show _ < 200 by omega) d_Mo_add_30 (fun Ha2 locs ho hM hL hR => ?_)
  obtain ⟨G3, eG3⟩ : ∃ G9 : m_G, G9 = m_up G2 11 (upd (G2 11) d o.2.2.1) := ⟨_, rfl⟩
  rw [← eG3] at hR
  have uG3 : ∀ j, j ≠ 11 → G3 j = G2 j := fun j h => by rw [eG3]; exact m_up_ne _ _ h
  have sG3 : G3 11 = upd (G2 11) d o.2.2.1 := by rw [eG3]; exact m_up_self _ _ _
  have u3 : ∀ k, k ≠ 9 → k ≠ 10 → k ≠ 11 → G3 k = G k := fun k h9 h10 h11 => by rw [eG3, m_up_ne _ _ h11, eG2, m_up_ne _ _ h10, eG1, m_up_ne _ _ h9]
  have a9 : G3 9 d = o.1 := by rw [eG3, m_up_ne _ _ (by decide), eG2, m_up_ne _ _ (by decide), eG1, m_up_self, pk_us]
  have a10 : G3 10 d = o.2.1 := by rw [eG3, m_up_ne _ _ (by decide), eG2, m_up_self, pk_us]
  have a11 : G3 11 d = o.2.2.1 := by rw [eG3, m_up_self, pk_us]
  have ue : ∀ e f, m_e G e f → m_e G3 e f := fun e f h => by unfold m_e at *; rw [u3 3 (by decide) (by decide) (by decide), u3 4 (by decide) (by decide) (by decide), u3 5 (by decide) (by decide) (by decide), u3 6 (by decide) (by decide) (by decide), u3 7 (by decide) (by decide) (by decide), u3 8 (by decide) (by decide) (by decide)]; exact h
  have hfa : m_fa d G G3 := by
    refine ⟨fun e he => ⟨fun k h1 h2 => by rw [u3 k (by omega) (by omega) (by omega)], fun k hk => by rw [u3 7 (by decide) (by decide) (by decide)], fun k hk => by rw [u3 8 (by decide) (by decide) (by decide)]⟩, fun k hk => u3 k (by omega) (by omega) (by omega), fun k i h1 h2 hi => ?_⟩
    have hk : k = 9 ∨ k = 10 ∨ k = 11 := by omega
    rcases hk with rfl | rfl | rfl
    · rw [eG3, m_up_ne _ _ (by decide), eG2, m_up_ne _ _ (by decide), eG1, m_up_self, pk_un hi]
    · rw [eG3, m_up_ne _ _ (by decide), eG2, m_up_self, pk_un hi, eG1, m_up_ne _ _ (by decide)]
    · rw [eG3, m_up_self, pk_un hi, eG2, m_up_ne _ _ (by decide), eG1, m_up_ne _ _ (by decide)]
  refine lv_aload_n hx hb d_Mo_add_31 rfl (lv_at hl 0 rfl) ?_
  refine lv_dup hx hb d_Mo_add_32 rfl ?_
  refine x_get (ci := 8) (T := T_Mo) hx hb htb u_Mo hown hK ho rfl 13 (by decide) (htb _ mw_473) (fun _ h9 => h9) (v := .int (nI d)) rfl d_Mo_add_33 ?_
  refine lv_iconst (v := 1) hx hb d_Mo_add_36 (by decide) ?_
  refine lv_iadd hx hb d_Mo_add_37 ?_
  refine x_top (y := nI (d + 1)) (nI_1 _) ?_
  refine x_put (F := m_fq b) (ci := 8) (v := .int (nI (d + 1))) (ty := .int) (T := T_Mo) hx hb htb u_Mo t_Mo t_Mo_ok n_Mo hown hK ho hL ⟨Nat.le_refl _, Nat.le_add_right _ _⟩ rfl 13 (by decide) (htb _ mw_473) (fun _ h9 => h9) rfl (by decide +kernel) rfl rfl (Nat.le_of_ble_eq_true rfl) d_Mo_add_38 (fun Hb locs hf1 hc2 hL => ?_)
  have hf1 : va_at D x_cl (b, .inr (8, [.int v0, .ref (b + 1), .ref (b + 2), .int v1, .int v2, .ref (b + 3), .ref (b + 4), .ref (b + 5), .ref (b + 6), .ref (b + 7), .ref (b + 8), .int (nI fs.length), .int v4, .int (nI (d + 1)), .int (nI al), .ref (b + 9), .ref (b + 10), .ref (b + 11), .int v7, .ref (b + 12), .ref (b + 13), .ref (b + 14), .ref (b + 15)])) Hb := hf1
  have ho : m_O D b v0 v1 v2 (nI fs.length) v4 (nI (d + 1)) (nI al) v7 Hb := hf1
  have hR := hR.but0 hc2
  have hM := hM.trans (m_K.but0 hc2)
  refine lv_aload_n hx hb d_Mo_add_41 rfl (lv_at hl 0 rfl) ?_
  refine lv_dup hx hb d_Mo_add_42 rfl ?_
  refine x_get (ci := 8) (T := T_Mo) hx hb htb u_Mo hown hK ho rfl 14 (by decide) (htb _ mw_474) (fun _ h9 => h9) (v := .int (nI al)) rfl d_Mo_add_43 ?_
  refine lv_iconst (v := 1) hx hb d_Mo_add_46 (by decide) ?_
  refine lv_iadd hx hb d_Mo_add_47 ?_
  refine x_top (y := nI (al + 1)) (nI_1 _) ?_
  refine x_put (F := m_fq b) (ci := 8) (v := .int (nI (al + 1))) (ty := .int) (T := T_Mo) hx hb htb u_Mo t_Mo t_Mo_ok n_Mo hown hK ho hL ⟨Nat.le_refl _, Nat.le_add_right _ _⟩ rfl 14 (by decide) (htb _ mw_474) (fun _ h9 => h9) rfl (by decide +kernel) rfl rfl (Nat.le_of_ble_eq_true rfl) d_Mo_add_48 (fun Hc locs hf3 hc4 hL => ?_)
  have hf3 : va_at D x_cl (b, .inr (8, [.int v0, .ref (b + 1), .ref (b + 2), .int v1, .int v2, .ref (b + 3), .ref (b + 4), .ref (b + 5), .ref (b + 6), .ref (b + 7), .ref (b + 8), .int (nI fs.length), .int v4, .int (nI (d + 1)), .int (nI (al + 1)), .ref (b + 9), .ref (b + 10), .ref (b + 11), .int v7, .ref (b + 12), .ref (b + 13), .ref (b + 14), .ref (b + 15)])) Hc := hf3
  have ho : m_O D b v0 v1 v2 (nI fs.length) v4 (nI (d + 1)) (nI (al + 1)) v7 Hc := hf3
  have hR := hR.but0 hc4
  have hM := hM.trans (m_K.but0 hc4)
  refine lv_aload_n hx hb d_Mo_add_51 rfl (lv_at hl 0 rfl) ?_
  refine lv_aload_n hx hb d_Mo_add_52 rfl (lv_at hl 0 rfl) ?_
  refine x_get (ci := 8) (T := T_Mo) hx hb htb u_Mo hown hK ho rfl 13 (by decide) (htb _ mw_473) (fun _ h9 => h9) (v := .int (nI (d + 1))) rfl d_Mo_add_53 ?_
  refine lv_iconst (v := 1) hx hb d_Mo_add_56 (by decide) ?_
  refine lv_isub hx hb d_Mo_add_57 ?_
  refine x_top (y := nI d) (nI_pred d) ?_
  refine x_call (F := m_fq b) (va_runV (As := [.int (nI d)]) (rest := []) ⟨hx, hb, hml, hown, htb⟩ (c_Mo_act l ho hR (o := o) hfl (fun i f h => ue _ f (hfs i f h)) hd a9 a10 a11 (ue _ _ o4) hok) (x_cV 1 htb mw_566 mw_6 mw_569 mw_568 ms_12 rfl rfl (by decide +kernel) ⟨Nat.le_of_ble_eq_true rfl, Nat.le_of_ble_eq_true rfl⟩) (x_preV hK hN ho rfl) rfl rfl hl.1 rfl (lv_room (Nat.le_of_ble_eq_true rfl)) d_Mo_add_58 ⟨Nat.le_of_ble_eq_true rfl, Nat.le_of_ble_eq_true rfl⟩) hL (fun q hq => hq) (fun Hd locs hP hL => ?_)
  refine W.eq (g2 := F0 m 61 ls []) rfl ?_
  obtain ⟨G4, q1, q2, q3, q4, q5⟩ := hP
  exact x_vret hx hb hr hlocks ⟨G4, q1, q2, hM.trans q3, q4, ⟨(congrFun (q5.2 9 (by decide)) d).trans a9, (congrFun (q5.2 10 (by decide)) d).trans a10, (congrFun (q5.2 11 (by decide)) d).trans a11, q5.e (by omega) (ue _ _ o4)⟩, hfa.f60 q5⟩ hL (Nat.le_refl _) (Nat.le_refl _) d_Mo_add_61
end
section
theorem g_ixv_none {r : Option Nat} (h : g_ixv r = -1) (hr : ∀ i, r = some i → i < 2 ^ 31) : r = none := by
  cases r with
  | none => rfl
  | some i => exact absurd h (m_nm1 (hr i rfl))
theorem m_lt {fs : List g_F} {n : g_N} (h : fs.length ≤ 60) : ∀ i, g_find fs n = some i → i < 2 ^ 31 := fun i hi => by
  have := g_find_lt hi
  omega
def m_push (S : m_S) (us : List Nat) (o : m_P) : m_S := (us, S.2.1, m_act S.2.2.1 o, S.2.2.2.1, S.2.2.2.2.1 ++ [o], S.2.2.2.2.2.1 + 1, S.2.2.2.2.2.2)
theorem m_M.th {D : va_G} {A : Nat → ClassId} {b : Nat} {t1 t2 t3 t4 t5 t6 t7 th : Int32} {S : m_S} {G : m_G} {H : Heap} (ho : m_O D b th t1 t2 t3 t4 t5 t6 t7 H) (hR : m_R D A b G H) (hV : m_V G S) (e1 : t1 = nI S.1.length) (e2 : t2 = nI S.2.1.length) (e3 : t3 = nI S.2.2.1.length) (e4 : t4 = nI S.2.2.2.1.length) (e5 : t5 = nI S.2.2.2.2.1.length) (e6 : t6 = nI S.2.2.2.2.2.1) (e7 : t7 = nI S.2.2.2.2.2.2.length) : m_M D A b th S H := by
  subst e1 e2 e3 e4 e5 e6 e7
  exact ⟨G, ho, hR, hV⟩

set_option maxHeartbeats 4000000 in
set_option maxRecDepth 100000 in
theorem c_Mo_deleteT1 (l : Launch) {D : va_G} {A : Nat → ClassId} {H0 : Heap} {b : Nat} {th : Int32} {S : m_S} (h : m_M D A b th S H0) {x y : Int32} (hok : ¬ g_ok x y) : Met l y_Mo_delete w_Mo_delete { frames := 4, cells := 0, slots := 0, locals := 96 } (x_Pc D A [.ref b, .int x, .int y] H0) (x_Q none (fun H1 => m_M D A b 1 S H1 ∧ m_K b H0 H1)) 0 0 (m_fq b) := by
  refine Met.ofW (cc := prog_10_method_17_code) (maxL := 4) (ret := none) (by decide) rfl ?_
  intro p e s m args below meth c s₁ B hml hv
  obtain ⟨rfl, hH, hK, hN⟩ := hv
  obtain ⟨hx, hb, hr, htb, hown, hlocks⟩ := x_start (wd := Cond.code y_Mo_delete prog_10_method_17_code 4 none) B
  have hl := lv_entry ([.ref b, .int x, .int y]) (n := 4) (Nat.le_of_ble_eq_true rfl)
  rw [lg_entry_eq]
  generalize (lg_sl ([.ref b, .int x, .int y]) ++ List.replicate (4 - (lg_sl ([.ref b, .int x, .int y])).length) Slot.unset).toArray = ls at hl ⊢
  have hl : lv_has ls 4 [(0, .ref b), (1, .int x), (2, .int y)] := hl
  rw [hH]
  obtain ⟨G, ho, hR, hV⟩ := h
  obtain ⟨w1, w2, ⟨w3, w4⟩, ⟨w5, w6⟩, ⟨w7, w8⟩, w9, w10⟩ := id hV
  have hM : m_K b H0 H0 := m_K.refl
  have hL : ∀ q ∈ ([] : List Loc), m_fq b q.base := fun q hq => by cases hq
  refine lv_aload_n hx hb d_Mo_delete_0 rfl (lv_at hl 0 rfl) ?_
  refine lv_iload_n hx hb d_Mo_delete_1 rfl (lv_at hl 1 rfl) ?_
  refine lv_iload_n hx hb d_Mo_delete_2 rfl (lv_at hl 2 rfl) ?_
  refine x_callP (va_runS (As := [.int x, .int y]) (rest := [.ref b]) ⟨hx, hb, hml, hown, htb⟩ (c_Mo_isName l x y) (x_cS 2 htb mw_551 mw_6 mw_553 mw_552 rfl rfl (by decide +kernel) ⟨Nat.le_of_ble_eq_true rfl, Nat.le_of_ble_eq_true rfl⟩) (x_preS hK hN) rfl rfl hl.1 rfl (lv_room (Nat.le_of_ble_eq_true rfl)) d_Mo_delete_3 ⟨Nat.le_of_ble_eq_true rfl, Nat.le_of_ble_eq_true rfl⟩) ?_
  refine W.eq (g2 := F0 m 6 ls [.int (g_okv x y), .ref b]) rfl ?_
  refine x_top (y := 0) (g_okv0 hok) ?_
  refine lv_if_ne (tgt := 13) hx hb d_Mo_delete_6 (by decide) (fun c9 => absurd rfl c9) (fun _ => ?_)
  refine lv_iconst (v := 1) hx hb d_Mo_delete_9 (by decide) ?_
  refine lv_goto (tgt := 42) hx hb d_Mo_delete_10 (by decide) ?_
  refine x_put (F := m_fq b) (ci := 8) (v := .int 1) (ty := .int) (T := T_Mo) hx hb htb u_Mo t_Mo t_Mo_ok n_Mo hown hK ho hL ⟨Nat.le_refl _, Nat.le_add_right _ _⟩ rfl 0 (by decide) (htb _ mw_460) (fun _ h9 => h9) rfl (by decide +kernel) rfl rfl (Nat.le_of_ble_eq_true rfl) d_Mo_delete_42 (fun Ht locs hf1 hc2 hL => ?_)
  have hf1 : va_at D x_cl (b, .inr (8, [.int 1, .ref (b + 1), .ref (b + 2), .int (nI S.1.length), .int (nI S.2.1.length), .ref (b + 3), .ref (b + 4), .ref (b + 5), .ref (b + 6), .ref (b + 7), .ref (b + 8), .int (nI S.2.2.1.length), .int (nI S.2.2.2.1.length), .int (nI S.2.2.2.2.1.length), .int (nI S.2.2.2.2.2.1), .ref (b + 9), .ref (b + 10), .ref (b + 11), .int (nI S.2.2.2.2.2.2.length), .ref (b + 12), .ref (b + 13), .ref (b + 14), .ref (b + 15)])) Ht := hf1
  have ho : m_O D b 1 (nI S.1.length) (nI S.2.1.length) (nI S.2.2.1.length) (nI S.2.2.2.1.length) (nI S.2.2.2.2.1.length) (nI S.2.2.2.2.2.1) (nI S.2.2.2.2.2.2.length) Ht := hf1
  have hR := hR.but0 hc2
  have hM := hM.trans (m_K.but0 hc2)
  refine lv_aload_n hx hb d_Mo_delete_45 rfl (lv_at hl 0 rfl) ?_
  refine x_get (ci := 8) (T := T_Mo) hx hb htb u_Mo hown hK ho rfl 0 (by decide) (htb _ mw_460) (fun _ h9 => h9) (v := .int 1) rfl d_Mo_delete_46 ?_
  refine lv_if_ne (tgt := 72) hx hb d_Mo_delete_49 (by decide) (fun _ => ?_) (fun c9 => absurd c9 (by decide))
  exact x_vret hx hb hr hlocks ⟨m_M.th ho hR hV rfl rfl rfl rfl rfl rfl rfl, hM⟩ hL (Nat.le_refl _) (Nat.le_refl _) d_Mo_delete_72
set_option maxHeartbeats 4000000 in
set_option maxRecDepth 100000 in
theorem c_Mo_deleteT2 (l : Launch) {D : va_G} {A : Nat → ClassId} {H0 : Heap} {b : Nat} {th : Int32} {S : m_S} (h : m_M D A b th S H0) {x y : Int32} (hok : g_ok x y) (hg : g_find S.2.2.1 (x, y, S.2.1) = none) : Met l y_Mo_delete w_Mo_delete { frames := 4, cells := 0, slots := 0, locals := 96 } (x_Pc D A [.ref b, .int x, .int y] H0) (x_Q none (fun H1 => m_M D A b 2 S H1 ∧ m_K b H0 H1)) 0 0 (m_fq b) := by
  refine Met.ofW (cc := prog_10_method_17_code) (maxL := 4) (ret := none) (by decide) rfl ?_
  intro p e s m args below meth c s₁ B hml hv
  obtain ⟨rfl, hH, hK, hN⟩ := hv
  obtain ⟨hx, hb, hr, htb, hown, hlocks⟩ := x_start (wd := Cond.code y_Mo_delete prog_10_method_17_code 4 none) B
  have hl := lv_entry ([.ref b, .int x, .int y]) (n := 4) (Nat.le_of_ble_eq_true rfl)
  rw [lg_entry_eq]
  generalize (lg_sl ([.ref b, .int x, .int y]) ++ List.replicate (4 - (lg_sl ([.ref b, .int x, .int y])).length) Slot.unset).toArray = ls at hl ⊢
  have hl : lv_has ls 4 [(0, .ref b), (1, .int x), (2, .int y)] := hl
  rw [hH]
  obtain ⟨G, ho, hR, hV⟩ := h
  obtain ⟨w1, w2, ⟨w3, w4⟩, ⟨w5, w6⟩, ⟨w7, w8⟩, w9, w10⟩ := id hV
  have hM : m_K b H0 H0 := m_K.refl
  have hL : ∀ q ∈ ([] : List Loc), m_fq b q.base := fun q hq => by cases hq
  refine lv_aload_n hx hb d_Mo_delete_0 rfl (lv_at hl 0 rfl) ?_
  refine lv_iload_n hx hb d_Mo_delete_1 rfl (lv_at hl 1 rfl) ?_
  refine lv_iload_n hx hb d_Mo_delete_2 rfl (lv_at hl 2 rfl) ?_
  refine x_callP (va_runS (As := [.int x, .int y]) (rest := [.ref b]) ⟨hx, hb, hml, hown, htb⟩ (c_Mo_isName l x y) (x_cS 2 htb mw_551 mw_6 mw_553 mw_552 rfl rfl (by decide +kernel) ⟨Nat.le_of_ble_eq_true rfl, Nat.le_of_ble_eq_true rfl⟩) (x_preS hK hN) rfl rfl hl.1 rfl (lv_room (Nat.le_of_ble_eq_true rfl)) d_Mo_delete_3 ⟨Nat.le_of_ble_eq_true rfl, Nat.le_of_ble_eq_true rfl⟩) ?_
  refine W.eq (g2 := F0 m 6 ls [.int (g_okv x y), .ref b]) rfl ?_
  refine x_top (y := 1) (g_okv1 hok) ?_
  refine lv_if_ne (tgt := 13) hx hb d_Mo_delete_6 (by decide) (fun _ => ?_) (fun c9 => absurd c9 (by decide))
  refine lv_aload_n hx hb d_Mo_delete_13 rfl (lv_at hl 0 rfl) ?_
  refine lv_iload_n hx hb d_Mo_delete_14 rfl (lv_at hl 1 rfl) ?_
  refine lv_iload_n hx hb d_Mo_delete_15 rfl (lv_at hl 2 rfl) ?_
  refine x_callP (va_runV (As := [.int x, .int y]) (rest := [.ref b]) ⟨hx, hb, hml, hown, htb⟩ (c_Mo_findHere l ho hR x y w4 w3 w2.1 w2.2.1 w2.2.2) (x_cV 2 htb mw_547 mw_6 mw_550 mw_549 ms_8 rfl rfl (by decide +kernel) ⟨Nat.le_of_ble_eq_true rfl, Nat.le_of_ble_eq_true rfl⟩) (x_preV hK hN ho rfl) rfl rfl hl.1 rfl (lv_room (Nat.le_of_ble_eq_true rfl)) d_Mo_delete_16 ⟨Nat.le_of_ble_eq_true rfl, Nat.le_of_ble_eq_true rfl⟩) ?_
  refine W.eq (g2 := F0 m 19 ls [.int (g_ixv (g_find S.2.2.1 (x, y, S.2.1))), .ref b]) rfl ?_
  refine x_top (y := (-1)) (congrArg g_ixv hg) ?_
  refine lv_iconst (v := (-1)) hx hb d_Mo_delete_19 (by decide) ?_
  refine lv_icmp_ne (tgt := 27) hx hb d_Mo_delete_20 (by decide) (fun c9 => absurd rfl c9) (fun _ => ?_)
  refine lv_iconst (v := 2) hx hb d_Mo_delete_23 (by decide) ?_
  refine lv_goto (tgt := 42) hx hb d_Mo_delete_24 (by decide) ?_
  refine x_put (F := m_fq b) (ci := 8) (v := .int 2) (ty := .int) (T := T_Mo) hx hb htb u_Mo t_Mo t_Mo_ok n_Mo hown hK ho hL ⟨Nat.le_refl _, Nat.le_add_right _ _⟩ rfl 0 (by decide) (htb _ mw_460) (fun _ h9 => h9) rfl (by decide +kernel) rfl rfl (Nat.le_of_ble_eq_true rfl) d_Mo_delete_42 (fun Ht locs hf3 hc4 hL => ?_)
  have hf3 : va_at D x_cl (b, .inr (8, [.int 2, .ref (b + 1), .ref (b + 2), .int (nI S.1.length), .int (nI S.2.1.length), .ref (b + 3), .ref (b + 4), .ref (b + 5), .ref (b + 6), .ref (b + 7), .ref (b + 8), .int (nI S.2.2.1.length), .int (nI S.2.2.2.1.length), .int (nI S.2.2.2.2.1.length), .int (nI S.2.2.2.2.2.1), .ref (b + 9), .ref (b + 10), .ref (b + 11), .int (nI S.2.2.2.2.2.2.length), .ref (b + 12), .ref (b + 13), .ref (b + 14), .ref (b + 15)])) Ht := hf3
  have ho : m_O D b 2 (nI S.1.length) (nI S.2.1.length) (nI S.2.2.1.length) (nI S.2.2.2.1.length) (nI S.2.2.2.2.1.length) (nI S.2.2.2.2.2.1) (nI S.2.2.2.2.2.2.length) Ht := hf3
  have hR := hR.but0 hc4
  have hM := hM.trans (m_K.but0 hc4)
  refine lv_aload_n hx hb d_Mo_delete_45 rfl (lv_at hl 0 rfl) ?_
  refine x_get (ci := 8) (T := T_Mo) hx hb htb u_Mo hown hK ho rfl 0 (by decide) (htb _ mw_460) (fun _ h9 => h9) (v := .int 2) rfl d_Mo_delete_46 ?_
  refine lv_if_ne (tgt := 72) hx hb d_Mo_delete_49 (by decide) (fun _ => ?_) (fun c9 => absurd c9 (by decide))
  exact x_vret hx hb hr hlocks ⟨m_M.th ho hR hV rfl rfl rfl rfl rfl rfl rfl, hM⟩ hL (Nat.le_refl _) (Nat.le_refl _) d_Mo_delete_72
set_option maxHeartbeats 4000000 in
set_option maxRecDepth 100000 in
theorem c_Mo_deleteT3 (l : Launch) {D : va_G} {A : Nat → ClassId} {H0 : Heap} {b : Nat} {th : Int32} {S : m_S} (h : m_M D A b th S H0) {x y : Int32} (hok : g_ok x y) {i : Nat} (hg : g_find S.2.2.1 (x, y, S.2.1) = some i) (hge : 200 ≤ S.2.2.2.2.1.length) : Met l y_Mo_delete w_Mo_delete { frames := 4, cells := 0, slots := 0, locals := 96 } (x_Pc D A [.ref b, .int x, .int y] H0) (x_Q none (fun H1 => m_M D A b 3 S H1 ∧ m_K b H0 H1)) 0 0 (m_fq b) := by
  refine Met.ofW (cc := prog_10_method_17_code) (maxL := 4) (ret := none) (by decide) rfl ?_
  intro p e s m args below meth c s₁ B hml hv
  obtain ⟨rfl, hH, hK, hN⟩ := hv
  obtain ⟨hx, hb, hr, htb, hown, hlocks⟩ := x_start (wd := Cond.code y_Mo_delete prog_10_method_17_code 4 none) B
  have hl := lv_entry ([.ref b, .int x, .int y]) (n := 4) (Nat.le_of_ble_eq_true rfl)
  rw [lg_entry_eq]
  generalize (lg_sl ([.ref b, .int x, .int y]) ++ List.replicate (4 - (lg_sl ([.ref b, .int x, .int y])).length) Slot.unset).toArray = ls at hl ⊢
  have hl : lv_has ls 4 [(0, .ref b), (1, .int x), (2, .int y)] := hl
  rw [hH]
  obtain ⟨G, ho, hR, hV⟩ := h
  obtain ⟨w1, w2, ⟨w3, w4⟩, ⟨w5, w6⟩, ⟨w7, w8⟩, w9, w10⟩ := id hV
  have hM : m_K b H0 H0 := m_K.refl
  have hL : ∀ q ∈ ([] : List Loc), m_fq b q.base := fun q hq => by cases hq
  refine lv_aload_n hx hb d_Mo_delete_0 rfl (lv_at hl 0 rfl) ?_
  refine lv_iload_n hx hb d_Mo_delete_1 rfl (lv_at hl 1 rfl) ?_
  refine lv_iload_n hx hb d_Mo_delete_2 rfl (lv_at hl 2 rfl) ?_
  refine x_callP (va_runS (As := [.int x, .int y]) (rest := [.ref b]) ⟨hx, hb, hml, hown, htb⟩ (c_Mo_isName l x y) (x_cS 2 htb mw_551 mw_6 mw_553 mw_552 rfl rfl (by decide +kernel) ⟨Nat.le_of_ble_eq_true rfl, Nat.le_of_ble_eq_true rfl⟩) (x_preS hK hN) rfl rfl hl.1 rfl (lv_room (Nat.le_of_ble_eq_true rfl)) d_Mo_delete_3 ⟨Nat.le_of_ble_eq_true rfl, Nat.le_of_ble_eq_true rfl⟩) ?_
  refine W.eq (g2 := F0 m 6 ls [.int (g_okv x y), .ref b]) rfl ?_
  refine x_top (y := 1) (g_okv1 hok) ?_
  refine lv_if_ne (tgt := 13) hx hb d_Mo_delete_6 (by decide) (fun _ => ?_) (fun c9 => absurd c9 (by decide))
  refine lv_aload_n hx hb d_Mo_delete_13 rfl (lv_at hl 0 rfl) ?_
  refine lv_iload_n hx hb d_Mo_delete_14 rfl (lv_at hl 1 rfl) ?_
  refine lv_iload_n hx hb d_Mo_delete_15 rfl (lv_at hl 2 rfl) ?_
  refine x_callP (va_runV (As := [.int x, .int y]) (rest := [.ref b]) ⟨hx, hb, hml, hown, htb⟩ (c_Mo_findHere l ho hR x y w4 w3 w2.1 w2.2.1 w2.2.2) (x_cV 2 htb mw_547 mw_6 mw_550 mw_549 ms_8 rfl rfl (by decide +kernel) ⟨Nat.le_of_ble_eq_true rfl, Nat.le_of_ble_eq_true rfl⟩) (x_preV hK hN ho rfl) rfl rfl hl.1 rfl (lv_room (Nat.le_of_ble_eq_true rfl)) d_Mo_delete_16 ⟨Nat.le_of_ble_eq_true rfl, Nat.le_of_ble_eq_true rfl⟩) ?_
  refine W.eq (g2 := F0 m 19 ls [.int (g_ixv (g_find S.2.2.1 (x, y, S.2.1))), .ref b]) rfl ?_
  refine x_top (y := nI i) (congrArg g_ixv hg) ?_
  refine lv_iconst (v := (-1)) hx hb d_Mo_delete_19 (by decide) ?_
  refine lv_icmp_ne (tgt := 27) hx hb d_Mo_delete_20 (by decide) (fun _ => ?_) (fun c9 => absurd c9 (m_nm1 (m_lt w4 i hg)))
  refine lv_aload_n hx hb d_Mo_delete_27 rfl (lv_at hl 0 rfl) ?_
  refine x_get (ci := 8) (T := T_Mo) hx hb htb u_Mo hown hK ho rfl 13 (by decide) (htb _ mw_473) (fun _ h9 => h9) (v := .int (nI S.2.2.2.2.1.length)) rfl d_Mo_delete_28 ?_
  refine lv_sipush (v := 200) hx hb d_Mo_delete_31 (by decide) ?_
  refine lv_icmp_ne (tgt := 41) hx hb d_Mo_delete_34 (by decide) (fun c9 => absurd (by rw [show S.2.2.2.2.1.length = 200 by omega]; rfl) c9) (fun _ => ?_)
  refine lv_iconst (v := 3) hx hb d_Mo_delete_37 (by decide) ?_
  refine lv_goto (tgt := 42) hx hb d_Mo_delete_38 (by decide) ?_
  refine x_put (F := m_fq b) (ci := 8) (v := .int 3) (ty := .int) (T := T_Mo) hx hb htb u_Mo t_Mo t_Mo_ok n_Mo hown hK ho hL ⟨Nat.le_refl _, Nat.le_add_right _ _⟩ rfl 0 (by decide) (htb _ mw_460) (fun _ h9 => h9) rfl (by decide +kernel) rfl rfl (Nat.le_of_ble_eq_true rfl) d_Mo_delete_42 (fun Ht locs hf5 hc6 hL => ?_)
  have hf5 : va_at D x_cl (b, .inr (8, [.int 3, .ref (b + 1), .ref (b + 2), .int (nI S.1.length), .int (nI S.2.1.length), .ref (b + 3), .ref (b + 4), .ref (b + 5), .ref (b + 6), .ref (b + 7), .ref (b + 8), .int (nI S.2.2.1.length), .int (nI S.2.2.2.1.length), .int (nI S.2.2.2.2.1.length), .int (nI S.2.2.2.2.2.1), .ref (b + 9), .ref (b + 10), .ref (b + 11), .int (nI S.2.2.2.2.2.2.length), .ref (b + 12), .ref (b + 13), .ref (b + 14), .ref (b + 15)])) Ht := hf5
  have ho : m_O D b 3 (nI S.1.length) (nI S.2.1.length) (nI S.2.2.1.length) (nI S.2.2.2.1.length) (nI S.2.2.2.2.1.length) (nI S.2.2.2.2.2.1) (nI S.2.2.2.2.2.2.length) Ht := hf5
  have hR := hR.but0 hc6
  have hM := hM.trans (m_K.but0 hc6)
  refine lv_aload_n hx hb d_Mo_delete_45 rfl (lv_at hl 0 rfl) ?_
  refine x_get (ci := 8) (T := T_Mo) hx hb htb u_Mo hown hK ho rfl 0 (by decide) (htb _ mw_460) (fun _ h9 => h9) (v := .int 3) rfl d_Mo_delete_46 ?_
  refine lv_if_ne (tgt := 72) hx hb d_Mo_delete_49 (by decide) (fun _ => ?_) (fun c9 => absurd c9 (by decide))
  exact x_vret hx hb hr hlocks ⟨m_M.th ho hR hV rfl rfl rfl rfl rfl rfl rfl, hM⟩ hL (Nat.le_refl _) (Nat.le_refl _) d_Mo_delete_72
set_option maxHeartbeats 4000000 in
set_option maxRecDepth 100000 in
theorem c_Mo_delete (l : Launch) {D : va_G} {A : Nat → ClassId} {H0 : Heap} {b : Nat} {th : Int32} {S : m_S} (h : m_M D A b th S H0) {x y : Int32} (hok : g_ok x y) {i : Nat} (hg : g_find S.2.2.1 (x, y, S.2.1) = some i) (hlt : S.2.2.2.2.1.length < 200) : Met l y_Mo_delete w_Mo_delete { frames := 4, cells := 0, slots := 0, locals := 96 } (x_Pc D A [.ref b, .int x, .int y] H0) (x_Q none (fun H1 => m_M D A b 0 (m_push S S.1 (2, 0, 0, ((x, y, S.2.1), []))) H1 ∧ m_K b H0 H1)) 0 0 (m_fq b) := by
  refine Met.ofW (cc := prog_10_method_17_code) (maxL := 4) (ret := none) (by decide) rfl ?_
  intro p e s m args below meth c s₁ B hml hv
  obtain ⟨rfl, hH, hK, hN⟩ := hv
  obtain ⟨hx, hb, hr, htb, hown, hlocks⟩ := x_start (wd := Cond.code y_Mo_delete prog_10_method_17_code 4 none) B
  have hl := lv_entry ([.ref b, .int x, .int y]) (n := 4) (Nat.le_of_ble_eq_true rfl)
  rw [lg_entry_eq]
  generalize (lg_sl ([.ref b, .int x, .int y]) ++ List.replicate (4 - (lg_sl ([.ref b, .int x, .int y])).length) Slot.unset).toArray = ls at hl ⊢
  have hl : lv_has ls 4 [(0, .ref b), (1, .int x), (2, .int y)] := hl
  rw [hH]
  obtain ⟨G, ho, hR, hV⟩ := h
  obtain ⟨w1, w2, ⟨w3, w4⟩, ⟨w5, w6⟩, ⟨w7, w8⟩, w9, w10⟩ := id hV
  have hM : m_K b H0 H0 := m_K.refl
  have hL : ∀ q ∈ ([] : List Loc), m_fq b q.base := fun q hq => by cases hq
  refine lv_aload_n hx hb d_Mo_delete_0 rfl (lv_at hl 0 rfl) ?_
  refine lv_iload_n hx hb d_Mo_delete_1 rfl (lv_at hl 1 rfl) ?_
  refine lv_iload_n hx hb d_Mo_delete_2 rfl (lv_at hl 2 rfl) ?_
  refine x_callP (va_runS (As := [.int x, .int y]) (rest := [.ref b]) ⟨hx, hb, hml, hown, htb⟩ (c_Mo_isName l x y) (x_cS 2 htb mw_551 mw_6 mw_553 mw_552 rfl rfl (by decide +kernel) ⟨Nat.le_of_ble_eq_true rfl, Nat.le_of_ble_eq_true rfl⟩) (x_preS hK hN) rfl rfl hl.1 rfl (lv_room (Nat.le_of_ble_eq_true rfl)) d_Mo_delete_3 ⟨Nat.le_of_ble_eq_true rfl, Nat.le_of_ble_eq_true rfl⟩) ?_
  refine W.eq (g2 := F0 m 6 ls [.int (g_okv x y), .ref b]) rfl ?_
  refine x_top (y := 1) (g_okv1 hok) ?_
  refine lv_if_ne (tgt := 13) hx hb d_Mo_delete_6 (by decide) (fun _ => ?_) (fun c9 => absurd c9 (by decide))
  refine lv_aload_n hx hb d_Mo_delete_13 rfl (lv_at hl 0 rfl) ?_
  refine lv_iload_n hx hb d_Mo_delete_14 rfl (lv_at hl 1 rfl) ?_
  refine lv_iload_n hx hb d_Mo_delete_15 rfl (lv_at hl 2 rfl) ?_
  refine x_callP (va_runV (As := [.int x, .int y]) (rest := [.ref b]) ⟨hx, hb, hml, hown, htb⟩ (c_Mo_findHere l ho hR x y w4 w3 w2.1 w2.2.1 w2.2.2) (x_cV 2 htb mw_547 mw_6 mw_550 mw_549 ms_8 rfl rfl (by decide +kernel) ⟨Nat.le_of_ble_eq_true rfl, Nat.le_of_ble_eq_true rfl⟩) (x_preV hK hN ho rfl) rfl rfl hl.1 rfl (lv_room (Nat.le_of_ble_eq_true rfl)) d_Mo_delete_16 ⟨Nat.le_of_ble_eq_true rfl, Nat.le_of_ble_eq_true rfl⟩) ?_
  refine W.eq (g2 := F0 m 19 ls [.int (g_ixv (g_find S.2.2.1 (x, y, S.2.1))), .ref b]) rfl ?_
  refine x_top (y := nI i) (congrArg g_ixv hg) ?_
  refine lv_iconst (v := (-1)) hx hb d_Mo_delete_19 (by decide) ?_
  refine lv_icmp_ne (tgt := 27) hx hb d_Mo_delete_20 (by decide) (fun _ => ?_) (fun c9 => absurd c9 (m_nm1 (m_lt w4 i hg)))
  refine lv_aload_n hx hb d_Mo_delete_27 rfl (lv_at hl 0 rfl) ?_
  refine x_get (ci := 8) (T := T_Mo) hx hb htb u_Mo hown hK ho rfl 13 (by decide) (htb _ mw_473) (fun _ h9 => h9) (v := .int (nI S.2.2.2.2.1.length)) rfl d_Mo_delete_28 ?_
  refine lv_sipush (v := 200) hx hb d_Mo_delete_31 (by decide) ?_
  refine lv_icmp_ne (tgt := 41) hx hb d_Mo_delete_34 (by decide) (fun _ => ?_) (fun c9 => absurd c9 (fun q => absurd ((nI_eq (b := 200) (by omega) (by decide)).mp q) (by omega)))
  refine lv_iconst (v := 0) hx hb d_Mo_delete_41 (by decide) ?_
  refine x_put (F := m_fq b) (ci := 8) (v := .int 0) (ty := .int) (T := T_Mo) hx hb htb u_Mo t_Mo t_Mo_ok n_Mo hown hK ho hL ⟨Nat.le_refl _, Nat.le_add_right _ _⟩ rfl 0 (by decide) (htb _ mw_460) (fun _ h9 => h9) rfl (by decide +kernel) rfl rfl (Nat.le_of_ble_eq_true rfl) d_Mo_delete_42 (fun Ht locs hf7 hc8 hL => ?_)
  have hf7 : va_at D x_cl (b, .inr (8, [.int 0, .ref (b + 1), .ref (b + 2), .int (nI S.1.length), .int (nI S.2.1.length), .ref (b + 3), .ref (b + 4), .ref (b + 5), .ref (b + 6), .ref (b + 7), .ref (b + 8), .int (nI S.2.2.1.length), .int (nI S.2.2.2.1.length), .int (nI S.2.2.2.2.1.length), .int (nI S.2.2.2.2.2.1), .ref (b + 9), .ref (b + 10), .ref (b + 11), .int (nI S.2.2.2.2.2.2.length), .ref (b + 12), .ref (b + 13), .ref (b + 14), .ref (b + 15)])) Ht := hf7
  have ho : m_O D b 0 (nI S.1.length) (nI S.2.1.length) (nI S.2.2.1.length) (nI S.2.2.2.1.length) (nI S.2.2.2.2.1.length) (nI S.2.2.2.2.2.1) (nI S.2.2.2.2.2.2.length) Ht := hf7
  have hR := hR.but0 hc8
  have hM := hM.trans (m_K.but0 hc8)
  refine lv_aload_n hx hb d_Mo_delete_45 rfl (lv_at hl 0 rfl) ?_
  refine x_get (ci := 8) (T := T_Mo) hx hb htb u_Mo hown hK ho rfl 0 (by decide) (htb _ mw_460) (fun _ h9 => h9) (v := .int 0) rfl d_Mo_delete_46 ?_
  refine lv_if_ne (tgt := 72) hx hb d_Mo_delete_49 (by decide) (fun c9 => absurd rfl c9) (fun _ => ?_)
  refine lv_aload_n hx hb d_Mo_delete_52 rfl (lv_at hl 0 rfl) ?_
  refine x_callP (va_runV (As := []) (rest := []) ⟨hx, hb, hml, hown, htb⟩ (c_Mo_entry l ho hR hlt) (x_cV 0 htb mw_554 mw_6 mw_557 mw_556 ms_9 rfl rfl (by decide +kernel) ⟨Nat.le_of_ble_eq_true rfl, Nat.le_of_ble_eq_true rfl⟩) (x_preV hK hN ho rfl) rfl rfl hl.1 rfl (lv_room (Nat.le_of_ble_eq_true rfl)) d_Mo_delete_53 ⟨Nat.le_of_ble_eq_true rfl, Nat.le_of_ble_eq_true rfl⟩) ?_
  refine W.eq (g2 := F0 m 56 ls [.int (nI (120 + S.2.2.2.2.1.length))]) rfl ?_
  refine lv_istore_n (lv' := [(3, .int (nI (120 + S.2.2.2.2.1.length))), (0, .ref b), (1, .int x), (2, .int y)]) hx hb d_Mo_delete_56 rfl hl (by decide) rfl (fun ls hl => ?_)
  refine lv_aload_n hx hb d_Mo_delete_57 rfl (lv_at hl 1 rfl) ?_
  refine lv_iload_n hx hb d_Mo_delete_58 rfl (lv_at hl 0 rfl) ?_
  refine lv_iload_n hx hb d_Mo_delete_59 rfl (lv_at hl 2 rfl) ?_
  refine lv_iload_n hx hb d_Mo_delete_60 rfl (lv_at hl 3 rfl) ?_
  refine x_call (F := m_fq b) (va_runV (As := [.int (nI (120 + S.2.2.2.2.1.length)), .int x, .int y]) (rest := []) ⟨hx, hb, hml, hown, htb⟩ (c_Mo_name l ho hR (j := 120 + S.2.2.2.2.1.length) x y (by omega) w2.1 w2.2.1 w2.2.2) (x_cV 3 htb mw_558 mw_6 mw_561 mw_560 ms_10 rfl rfl (by decide +kernel) ⟨Nat.le_of_ble_eq_true rfl, Nat.le_of_ble_eq_true rfl⟩) (x_preV hK hN ho rfl) rfl rfl hl.1 rfl (lv_room (Nat.le_of_ble_eq_true rfl)) d_Mo_delete_61 ⟨Nat.le_of_ble_eq_true rfl, Nat.le_of_ble_eq_true rfl⟩) hL (fun q hq => hq) (fun H2 locs hP hL => ?_)
  refine W.eq (g2 := F0 m 64 ls []) rfl ?_
  obtain ⟨G1, ho, hR, q3, q4, q5⟩ := hP
  have hM := hM.trans q3
  refine lv_aload_n hx hb d_Mo_delete_64 rfl (lv_at hl 1 rfl) ?_
  refine lv_iconst (v := 2) hx hb d_Mo_delete_65 (by decide) ?_
  refine lv_iload_n hx hb d_Mo_delete_66 rfl (lv_at hl 0 rfl) ?_
  refine lv_iconst (v := 0) hx hb d_Mo_delete_67 (by decide) ?_
  refine lv_iconst (v := 0) hx hb d_Mo_delete_68 (by decide) ?_
  have hmo : m_ok S.2.2.1 (2, 0, 0, ((x, y, S.2.1), [])) := Or.inr ⟨i, hg⟩
  refine x_call (F := m_fq b) (va_runV (As := [.int 2, .int (nI (120 + S.2.2.2.2.1.length)), .int 0, .int 0]) (rest := []) ⟨hx, hb, hml, hown, htb⟩ (c_Mo_add l ho hR (o := (2, 0, 0, ((x, y, S.2.1), []))) _ w4 (q5.L (Or.inr (by omega)) w3) hlt q4 hmo) (x_cV 4 htb mw_562 mw_6 mw_565 mw_564 ms_11 rfl rfl (by decide +kernel) ⟨Nat.le_of_ble_eq_true rfl, Nat.le_of_ble_eq_true rfl⟩) (x_preV hK hN ho rfl) rfl rfl hl.1 rfl (lv_room (Nat.le_of_ble_eq_true rfl)) d_Mo_delete_69 ⟨Nat.le_of_ble_eq_true rfl, Nat.le_of_ble_eq_true rfl⟩) hL (fun q hq => hq) (fun H3 locs hP hL => ?_)
  refine W.eq (g2 := F0 m 72 ls []) rfl ?_
  obtain ⟨G2, ho, hR, q6, q7, q8, q9⟩ := hP
  exact x_vret hx hb hr hlocks ⟨m_M.th ho hR (hV.push hlt (Or.inr rfl) q5 q9 q8 q7 (m_act_len hmo w4)) rfl rfl rfl rfl (by show _ = nI (S.2.2.2.2.1 ++ [(2, 0, 0, ((x, y, S.2.1), []))]).length; rw [List.length_append]; rfl) rfl rfl, hM.trans q6⟩ hL (Nat.le_refl _) (Nat.le_refl _) d_Mo_delete_72
set_option maxHeartbeats 4000000 in
set_option maxRecDepth 100000 in
theorem c_Mo_renameT1a (l : Launch) {D : va_G} {A : Nat → ClassId} {H0 : Heap} {b : Nat} {th : Int32} {S : m_S} (h : m_M D A b th S H0) {x y x2 y2 : Int32} (hok : ¬ g_ok x y) : Met l y_Mo_rename w_Mo_rename { frames := 4, cells := 0, slots := 0, locals := 96 } (x_Pc D A [.ref b, .int x, .int y, .int x2, .int y2] H0) (x_Q none (fun H1 => m_M D A b 1 S H1 ∧ m_K b H0 H1)) 0 0 (m_fq b) := by
  refine Met.ofW (cc := prog_10_method_16_code) (maxL := 7) (ret := none) (by decide) rfl ?_
  intro p e s m args below meth c s₁ B hml hv
  obtain ⟨rfl, hH, hK, hN⟩ := hv
  obtain ⟨hx, hb, hr, htb, hown, hlocks⟩ := x_start (wd := Cond.code y_Mo_rename prog_10_method_16_code 7 none) B
  have hl := lv_entry ([.ref b, .int x, .int y, .int x2, .int y2]) (n := 7) (Nat.le_of_ble_eq_true rfl)
  rw [lg_entry_eq]
  generalize (lg_sl ([.ref b, .int x, .int y, .int x2, .int y2]) ++ List.replicate (7 - (lg_sl ([.ref b, .int x, .int y, .int x2, .int y2])).length) Slot.unset).toArray = ls at hl ⊢
  have hl : lv_has ls 7 [(0, .ref b), (1, .int x), (2, .int y), (3, .int x2), (4, .int y2)] := hl
  rw [hH]
  obtain ⟨G, ho, hR, hV⟩ := h
  obtain ⟨w1, w2, ⟨w3, w4⟩, ⟨w5, w6⟩, ⟨w7, w8⟩, w9, w10⟩ := id hV
  have hM : m_K b H0 H0 := m_K.refl
  have hL : ∀ q ∈ ([] : List Loc), m_fq b q.base := fun q hq => by cases hq
  refine lv_iload_n hx hb d_Mo_rename_0 rfl (lv_at hl 1 rfl) ?_
  refine lv_iload_n hx hb d_Mo_rename_1 rfl (lv_at hl 2 rfl) ?_
  refine x_callP (va_runS (As := [.int x, .int y]) (rest := []) ⟨hx, hb, hml, hown, htb⟩ (c_Mo_isName l x y) (x_cS 2 htb mw_551 mw_6 mw_553 mw_552 rfl rfl (by decide +kernel) ⟨Nat.le_of_ble_eq_true rfl, Nat.le_of_ble_eq_true rfl⟩) (x_preS hK hN) rfl rfl hl.1 rfl (lv_room (Nat.le_of_ble_eq_true rfl)) d_Mo_rename_2 ⟨Nat.le_of_ble_eq_true rfl, Nat.le_of_ble_eq_true rfl⟩) ?_
  refine W.eq (g2 := F0 m 5 ls [.int (g_okv x y)]) rfl ?_
  refine x_top (y := 0) (g_okv0 hok) ?_
  refine lv_if_eq (tgt := 21) hx hb d_Mo_rename_5 (by decide) (fun _ => ?_) (fun c9 => absurd rfl c9)
  refine lv_iconst (v := 0) hx hb d_Mo_rename_21 (by decide) ?_
  refine lv_istore (lv' := [(5, .int 0), (0, .ref b), (1, .int x), (2, .int y), (3, .int x2), (4, .int y2)]) hx hb d_Mo_rename_22 hl (by decide) rfl (fun ls hl => ?_)
  refine lv_aload_n hx hb d_Mo_rename_24 rfl (lv_at hl 1 rfl) ?_
  refine lv_iload hx hb d_Mo_rename_25 (lv_at hl 0 rfl) ?_
  refine lv_if_ne (tgt := 34) hx hb d_Mo_rename_27 (by decide) (fun c9 => absurd rfl c9) (fun _ => ?_)
  refine lv_iconst (v := 1) hx hb d_Mo_rename_30 (by decide) ?_
  refine lv_goto (tgt := 63) hx hb d_Mo_rename_31 (by decide) ?_
  refine x_put (F := m_fq b) (ci := 8) (v := .int 1) (ty := .int) (T := T_Mo) hx hb htb u_Mo t_Mo t_Mo_ok n_Mo hown hK ho hL ⟨Nat.le_refl _, Nat.le_add_right _ _⟩ rfl 0 (by decide) (htb _ mw_460) (fun _ h9 => h9) rfl (by decide +kernel) rfl rfl (Nat.le_of_ble_eq_true rfl) d_Mo_rename_63 (fun Ht locs hf9 hc10 hL => ?_)
  have hf9 : va_at D x_cl (b, .inr (8, [.int 1, .ref (b + 1), .ref (b + 2), .int (nI S.1.length), .int (nI S.2.1.length), .ref (b + 3), .ref (b + 4), .ref (b + 5), .ref (b + 6), .ref (b + 7), .ref (b + 8), .int (nI S.2.2.1.length), .int (nI S.2.2.2.1.length), .int (nI S.2.2.2.2.1.length), .int (nI S.2.2.2.2.2.1), .ref (b + 9), .ref (b + 10), .ref (b + 11), .int (nI S.2.2.2.2.2.2.length), .ref (b + 12), .ref (b + 13), .ref (b + 14), .ref (b + 15)])) Ht := hf9
  have ho : m_O D b 1 (nI S.1.length) (nI S.2.1.length) (nI S.2.2.1.length) (nI S.2.2.2.1.length) (nI S.2.2.2.2.1.length) (nI S.2.2.2.2.2.1) (nI S.2.2.2.2.2.2.length) Ht := hf9
  have hR := hR.but0 hc10
  have hM := hM.trans (m_K.but0 hc10)
  refine lv_aload_n hx hb d_Mo_rename_66 rfl (lv_at hl 1 rfl) ?_
  refine x_get (ci := 8) (T := T_Mo) hx hb htb u_Mo hown hK ho rfl 0 (by decide) (htb _ mw_460) (fun _ h9 => h9) (v := .int 1) rfl d_Mo_rename_67 ?_
  refine lv_if_ne (tgt := 97) hx hb d_Mo_rename_70 (by decide) (fun _ => ?_) (fun c9 => absurd c9 (by decide))
  exact x_vret hx hb hr hlocks ⟨m_M.th ho hR hV rfl rfl rfl rfl rfl rfl rfl, hM⟩ hL (Nat.le_refl _) (Nat.le_refl _) d_Mo_rename_97
set_option maxHeartbeats 4000000 in
set_option maxRecDepth 100000 in
theorem c_Mo_renameT1b (l : Launch) {D : va_G} {A : Nat → ClassId} {H0 : Heap} {b : Nat} {th : Int32} {S : m_S} (h : m_M D A b th S H0) {x y x2 y2 : Int32} (hok : g_ok x y) (hok2 : ¬ g_ok x2 y2) : Met l y_Mo_rename w_Mo_rename { frames := 4, cells := 0, slots := 0, locals := 96 } (x_Pc D A [.ref b, .int x, .int y, .int x2, .int y2] H0) (x_Q none (fun H1 => m_M D A b 1 S H1 ∧ m_K b H0 H1)) 0 0 (m_fq b) := by
  refine Met.ofW (cc := prog_10_method_16_code) (maxL := 7) (ret := none) (by decide) rfl ?_
  intro p e s m args below meth c s₁ B hml hv
  obtain ⟨rfl, hH, hK, hN⟩ := hv
  obtain ⟨hx, hb, hr, htb, hown, hlocks⟩ := x_start (wd := Cond.code y_Mo_rename prog_10_method_16_code 7 none) B
  have hl := lv_entry ([.ref b, .int x, .int y, .int x2, .int y2]) (n := 7) (Nat.le_of_ble_eq_true rfl)
  rw [lg_entry_eq]
  generalize (lg_sl ([.ref b, .int x, .int y, .int x2, .int y2]) ++ List.replicate (7 - (lg_sl ([.ref b, .int x, .int y, .int x2, .int y2])).length) Slot.unset).toArray = ls at hl ⊢
  have hl : lv_has ls 7 [(0, .ref b), (1, .int x), (2, .int y), (3, .int x2), (4, .int y2)] := hl
  rw [hH]
  obtain ⟨G, ho, hR, hV⟩ := h
  obtain ⟨w1, w2, ⟨w3, w4⟩, ⟨w5, w6⟩, ⟨w7, w8⟩, w9, w10⟩ := id hV
  have hM : m_K b H0 H0 := m_K.refl
  have hL : ∀ q ∈ ([] : List Loc), m_fq b q.base := fun q hq => by cases hq
  refine lv_iload_n hx hb d_Mo_rename_0 rfl (lv_at hl 1 rfl) ?_
  refine lv_iload_n hx hb d_Mo_rename_1 rfl (lv_at hl 2 rfl) ?_
  refine x_callP (va_runS (As := [.int x, .int y]) (rest := []) ⟨hx, hb, hml, hown, htb⟩ (c_Mo_isName l x y) (x_cS 2 htb mw_551 mw_6 mw_553 mw_552 rfl rfl (by decide +kernel) ⟨Nat.le_of_ble_eq_true rfl, Nat.le_of_ble_eq_true rfl⟩) (x_preS hK hN) rfl rfl hl.1 rfl (lv_room (Nat.le_of_ble_eq_true rfl)) d_Mo_rename_2 ⟨Nat.le_of_ble_eq_true rfl, Nat.le_of_ble_eq_true rfl⟩) ?_
  refine W.eq (g2 := F0 m 5 ls [.int (g_okv x y)]) rfl ?_
  refine x_top (y := 1) (g_okv1 hok) ?_
  refine lv_if_eq (tgt := 21) hx hb d_Mo_rename_5 (by decide) (fun c9 => absurd c9 (by decide)) (fun _ => ?_)
  refine lv_iload_n hx hb d_Mo_rename_8 rfl (lv_at hl 3 rfl) ?_
  refine lv_iload hx hb d_Mo_rename_9 (lv_at hl 4 rfl) ?_
  refine x_callP (va_runS (As := [.int x2, .int y2]) (rest := []) ⟨hx, hb, hml, hown, htb⟩ (c_Mo_isName l x2 y2) (x_cS 2 htb mw_551 mw_6 mw_553 mw_552 rfl rfl (by decide +kernel) ⟨Nat.le_of_ble_eq_true rfl, Nat.le_of_ble_eq_true rfl⟩) (x_preS hK hN) rfl rfl hl.1 rfl (lv_room (Nat.le_of_ble_eq_true rfl)) d_Mo_rename_11 ⟨Nat.le_of_ble_eq_true rfl, Nat.le_of_ble_eq_true rfl⟩) ?_
  refine W.eq (g2 := F0 m 14 ls [.int (g_okv x2 y2)]) rfl ?_
  refine x_top (y := 0) (g_okv0 hok2) ?_
  refine lv_if_eq (tgt := 21) hx hb d_Mo_rename_14 (by decide) (fun _ => ?_) (fun c9 => absurd rfl c9)
  refine lv_iconst (v := 0) hx hb d_Mo_rename_21 (by decide) ?_
  refine lv_istore (lv' := [(5, .int 0), (0, .ref b), (1, .int x), (2, .int y), (3, .int x2), (4, .int y2)]) hx hb d_Mo_rename_22 hl (by decide) rfl (fun ls hl => ?_)
  refine lv_aload_n hx hb d_Mo_rename_24 rfl (lv_at hl 1 rfl) ?_
  refine lv_iload hx hb d_Mo_rename_25 (lv_at hl 0 rfl) ?_
  refine lv_if_ne (tgt := 34) hx hb d_Mo_rename_27 (by decide) (fun c9 => absurd rfl c9) (fun _ => ?_)
  refine lv_iconst (v := 1) hx hb d_Mo_rename_30 (by decide) ?_
  refine lv_goto (tgt := 63) hx hb d_Mo_rename_31 (by decide) ?_
  refine x_put (F := m_fq b) (ci := 8) (v := .int 1) (ty := .int) (T := T_Mo) hx hb htb u_Mo t_Mo t_Mo_ok n_Mo hown hK ho hL ⟨Nat.le_refl _, Nat.le_add_right _ _⟩ rfl 0 (by decide) (htb _ mw_460) (fun _ h9 => h9) rfl (by decide +kernel) rfl rfl (Nat.le_of_ble_eq_true rfl) d_Mo_rename_63 (fun Ht locs hf11 hc12 hL => ?_)
  have hf11 : va_at D x_cl (b, .inr (8, [.int 1, .ref (b + 1), .ref (b + 2), .int (nI S.1.length), .int (nI S.2.1.length), .ref (b + 3), .ref (b + 4), .ref (b + 5), .ref (b + 6), .ref (b + 7), .ref (b + 8), .int (nI S.2.2.1.length), .int (nI S.2.2.2.1.length), .int (nI S.2.2.2.2.1.length), .int (nI S.2.2.2.2.2.1), .ref (b + 9), .ref (b + 10), .ref (b + 11), .int (nI S.2.2.2.2.2.2.length), .ref (b + 12), .ref (b + 13), .ref (b + 14), .ref (b + 15)])) Ht := hf11
  have ho : m_O D b 1 (nI S.1.length) (nI S.2.1.length) (nI S.2.2.1.length) (nI S.2.2.2.1.length) (nI S.2.2.2.2.1.length) (nI S.2.2.2.2.2.1) (nI S.2.2.2.2.2.2.length) Ht := hf11
  have hR := hR.but0 hc12
  have hM := hM.trans (m_K.but0 hc12)
  refine lv_aload_n hx hb d_Mo_rename_66 rfl (lv_at hl 1 rfl) ?_
  refine x_get (ci := 8) (T := T_Mo) hx hb htb u_Mo hown hK ho rfl 0 (by decide) (htb _ mw_460) (fun _ h9 => h9) (v := .int 1) rfl d_Mo_rename_67 ?_
  refine lv_if_ne (tgt := 97) hx hb d_Mo_rename_70 (by decide) (fun _ => ?_) (fun c9 => absurd c9 (by decide))
  exact x_vret hx hb hr hlocks ⟨m_M.th ho hR hV rfl rfl rfl rfl rfl rfl rfl, hM⟩ hL (Nat.le_refl _) (Nat.le_refl _) d_Mo_rename_97
set_option maxHeartbeats 4000000 in
set_option maxRecDepth 100000 in
theorem c_Mo_renameT2 (l : Launch) {D : va_G} {A : Nat → ClassId} {H0 : Heap} {b : Nat} {th : Int32} {S : m_S} (h : m_M D A b th S H0) {x y x2 y2 : Int32} (hok : g_ok x y) (hok2 : g_ok x2 y2) (hg : g_find S.2.2.1 (x, y, S.2.1) = none) : Met l y_Mo_rename w_Mo_rename { frames := 4, cells := 0, slots := 0, locals := 96 } (x_Pc D A [.ref b, .int x, .int y, .int x2, .int y2] H0) (x_Q none (fun H1 => m_M D A b 2 S H1 ∧ m_K b H0 H1)) 0 0 (m_fq b) := by
  refine Met.ofW (cc := prog_10_method_16_code) (maxL := 7) (ret := none) (by decide) rfl ?_
  intro p e s m args below meth c s₁ B hml hv
  obtain ⟨rfl, hH, hK, hN⟩ := hv
  obtain ⟨hx, hb, hr, htb, hown, hlocks⟩ := x_start (wd := Cond.code y_Mo_rename prog_10_method_16_code 7 none) B
  have hl := lv_entry ([.ref b, .int x, .int y, .int x2, .int y2]) (n := 7) (Nat.le_of_ble_eq_true rfl)
  rw [lg_entry_eq]
  generalize (lg_sl ([.ref b, .int x, .int y, .int x2, .int y2]) ++ List.replicate (7 - (lg_sl ([.ref b, .int x, .int y, .int x2, .int y2])).length) Slot.unset).toArray = ls at hl ⊢
  have hl : lv_has ls 7 [(0, .ref b), (1, .int x), (2, .int y), (3, .int x2), (4, .int y2)] := hl
  rw [hH]
  obtain ⟨G, ho, hR, hV⟩ := h
  obtain ⟨w1, w2, ⟨w3, w4⟩, ⟨w5, w6⟩, ⟨w7, w8⟩, w9, w10⟩ := id hV
  have hM : m_K b H0 H0 := m_K.refl
  have hL : ∀ q ∈ ([] : List Loc), m_fq b q.base := fun q hq => by cases hq
  refine lv_iload_n hx hb d_Mo_rename_0 rfl (lv_at hl 1 rfl) ?_
  refine lv_iload_n hx hb d_Mo_rename_1 rfl (lv_at hl 2 rfl) ?_
  refine x_callP (va_runS (As := [.int x, .int y]) (rest := []) ⟨hx, hb, hml, hown, htb⟩ (c_Mo_isName l x y) (x_cS 2 htb mw_551 mw_6 mw_553 mw_552 rfl rfl (by decide +kernel) ⟨Nat.le_of_ble_eq_true rfl, Nat.le_of_ble_eq_true rfl⟩) (x_preS hK hN) rfl rfl hl.1 rfl (lv_room (Nat.le_of_ble_eq_true rfl)) d_Mo_rename_2 ⟨Nat.le_of_ble_eq_true rfl, Nat.le_of_ble_eq_true rfl⟩) ?_
  refine W.eq (g2 := F0 m 5 ls [.int (g_okv x y)]) rfl ?_
  refine x_top (y := 1) (g_okv1 hok) ?_
  refine lv_if_eq (tgt := 21) hx hb d_Mo_rename_5 (by decide) (fun c9 => absurd c9 (by decide)) (fun _ => ?_)
  refine lv_iload_n hx hb d_Mo_rename_8 rfl (lv_at hl 3 rfl) ?_
  refine lv_iload hx hb d_Mo_rename_9 (lv_at hl 4 rfl) ?_
  refine x_callP (va_runS (As := [.int x2, .int y2]) (rest := []) ⟨hx, hb, hml, hown, htb⟩ (c_Mo_isName l x2 y2) (x_cS 2 htb mw_551 mw_6 mw_553 mw_552 rfl rfl (by decide +kernel) ⟨Nat.le_of_ble_eq_true rfl, Nat.le_of_ble_eq_true rfl⟩) (x_preS hK hN) rfl rfl hl.1 rfl (lv_room (Nat.le_of_ble_eq_true rfl)) d_Mo_rename_11 ⟨Nat.le_of_ble_eq_true rfl, Nat.le_of_ble_eq_true rfl⟩) ?_
  refine W.eq (g2 := F0 m 14 ls [.int (g_okv x2 y2)]) rfl ?_
  refine x_top (y := 1) (g_okv1 hok2) ?_
  refine lv_if_eq (tgt := 21) hx hb d_Mo_rename_14 (by decide) (fun c9 => absurd c9 (by decide)) (fun _ => ?_)
  refine lv_iconst (v := 1) hx hb d_Mo_rename_17 (by decide) ?_
  refine lv_goto (tgt := 22) hx hb d_Mo_rename_18 (by decide) ?_
  refine lv_istore (lv' := [(5, .int 1), (0, .ref b), (1, .int x), (2, .int y), (3, .int x2), (4, .int y2)]) hx hb d_Mo_rename_22 hl (by decide) rfl (fun ls hl => ?_)
  refine lv_aload_n hx hb d_Mo_rename_24 rfl (lv_at hl 1 rfl) ?_
  refine lv_iload hx hb d_Mo_rename_25 (lv_at hl 0 rfl) ?_
  refine lv_if_ne (tgt := 34) hx hb d_Mo_rename_27 (by decide) (fun _ => ?_) (fun c9 => absurd c9 (by decide))
  refine lv_aload_n hx hb d_Mo_rename_34 rfl (lv_at hl 1 rfl) ?_
  refine lv_iload_n hx hb d_Mo_rename_35 rfl (lv_at hl 2 rfl) ?_
  refine lv_iload_n hx hb d_Mo_rename_36 rfl (lv_at hl 3 rfl) ?_
  refine x_callP (va_runV (As := [.int x, .int y]) (rest := [.ref b]) ⟨hx, hb, hml, hown, htb⟩ (c_Mo_findHere l ho hR x y w4 w3 w2.1 w2.2.1 w2.2.2) (x_cV 2 htb mw_547 mw_6 mw_550 mw_549 ms_8 rfl rfl (by decide +kernel) ⟨Nat.le_of_ble_eq_true rfl, Nat.le_of_ble_eq_true rfl⟩) (x_preV hK hN ho rfl) rfl rfl hl.1 rfl (lv_room (Nat.le_of_ble_eq_true rfl)) d_Mo_rename_37 ⟨Nat.le_of_ble_eq_true rfl, Nat.le_of_ble_eq_true rfl⟩) ?_
  refine W.eq (g2 := F0 m 40 ls [.int (g_ixv (g_find S.2.2.1 (x, y, S.2.1))), .ref b]) rfl ?_
  refine x_top (y := (-1)) (congrArg g_ixv hg) ?_
  refine lv_iconst (v := (-1)) hx hb d_Mo_rename_40 (by decide) ?_
  refine lv_icmp_ne (tgt := 48) hx hb d_Mo_rename_41 (by decide) (fun c9 => absurd rfl c9) (fun _ => ?_)
  refine lv_iconst (v := 2) hx hb d_Mo_rename_44 (by decide) ?_
  refine lv_goto (tgt := 63) hx hb d_Mo_rename_45 (by decide) ?_
  refine x_put (F := m_fq b) (ci := 8) (v := .int 2) (ty := .int) (T := T_Mo) hx hb htb u_Mo t_Mo t_Mo_ok n_Mo hown hK ho hL ⟨Nat.le_refl _, Nat.le_add_right _ _⟩ rfl 0 (by decide) (htb _ mw_460) (fun _ h9 => h9) rfl (by decide +kernel) rfl rfl (Nat.le_of_ble_eq_true rfl) d_Mo_rename_63 (fun Ht locs hf13 hc14 hL => ?_)
  have hf13 : va_at D x_cl (b, .inr (8, [.int 2, .ref (b + 1), .ref (b + 2), .int (nI S.1.length), .int (nI S.2.1.length), .ref (b + 3), .ref (b + 4), .ref (b + 5), .ref (b + 6), .ref (b + 7), .ref (b + 8), .int (nI S.2.2.1.length), .int (nI S.2.2.2.1.length), .int (nI S.2.2.2.2.1.length), .int (nI S.2.2.2.2.2.1), .ref (b + 9), .ref (b + 10), .ref (b + 11), .int (nI S.2.2.2.2.2.2.length), .ref (b + 12), .ref (b + 13), .ref (b + 14), .ref (b + 15)])) Ht := hf13
  have ho : m_O D b 2 (nI S.1.length) (nI S.2.1.length) (nI S.2.2.1.length) (nI S.2.2.2.1.length) (nI S.2.2.2.2.1.length) (nI S.2.2.2.2.2.1) (nI S.2.2.2.2.2.2.length) Ht := hf13
  have hR := hR.but0 hc14
  have hM := hM.trans (m_K.but0 hc14)
  refine lv_aload_n hx hb d_Mo_rename_66 rfl (lv_at hl 1 rfl) ?_
  refine x_get (ci := 8) (T := T_Mo) hx hb htb u_Mo hown hK ho rfl 0 (by decide) (htb _ mw_460) (fun _ h9 => h9) (v := .int 2) rfl d_Mo_rename_67 ?_
  refine lv_if_ne (tgt := 97) hx hb d_Mo_rename_70 (by decide) (fun _ => ?_) (fun c9 => absurd c9 (by decide))
  exact x_vret hx hb hr hlocks ⟨m_M.th ho hR hV rfl rfl rfl rfl rfl rfl rfl, hM⟩ hL (Nat.le_refl _) (Nat.le_refl _) d_Mo_rename_97
set_option maxHeartbeats 4000000 in
set_option maxRecDepth 100000 in
theorem c_Mo_renameT3 (l : Launch) {D : va_G} {A : Nat → ClassId} {H0 : Heap} {b : Nat} {th : Int32} {S : m_S} (h : m_M D A b th S H0) {x y x2 y2 : Int32} (hok : g_ok x y) (hok2 : g_ok x2 y2) {i : Nat} (hg : g_find S.2.2.1 (x, y, S.2.1) = some i) (hge : 200 ≤ S.2.2.2.2.1.length) : Met l y_Mo_rename w_Mo_rename { frames := 4, cells := 0, slots := 0, locals := 96 } (x_Pc D A [.ref b, .int x, .int y, .int x2, .int y2] H0) (x_Q none (fun H1 => m_M D A b 3 S H1 ∧ m_K b H0 H1)) 0 0 (m_fq b) := by
  refine Met.ofW (cc := prog_10_method_16_code) (maxL := 7) (ret := none) (by decide) rfl ?_
  intro p e s m args below meth c s₁ B hml hv
  obtain ⟨rfl, hH, hK, hN⟩ := hv
  obtain ⟨hx, hb, hr, htb, hown, hlocks⟩ := x_start (wd := Cond.code y_Mo_rename prog_10_method_16_code 7 none) B
  have hl := lv_entry ([.ref b, .int x, .int y, .int x2, .int y2]) (n := 7) (Nat.le_of_ble_eq_true rfl)
  rw [lg_entry_eq]
  generalize (lg_sl ([.ref b, .int x, .int y, .int x2, .int y2]) ++ List.replicate (7 - (lg_sl ([.ref b, .int x, .int y, .int x2, .int y2])).length) Slot.unset).toArray = ls at hl ⊢
  have hl : lv_has ls 7 [(0, .ref b), (1, .int x), (2, .int y), (3, .int x2), (4, .int y2)] := hl
  rw [hH]
  obtain ⟨G, ho, hR, hV⟩ := h
  obtain ⟨w1, w2, ⟨w3, w4⟩, ⟨w5, w6⟩, ⟨w7, w8⟩, w9, w10⟩ := id hV
  have hM : m_K b H0 H0 := m_K.refl
  have hL : ∀ q ∈ ([] : List Loc), m_fq b q.base := fun q hq => by cases hq
  refine lv_iload_n hx hb d_Mo_rename_0 rfl (lv_at hl 1 rfl) ?_
  refine lv_iload_n hx hb d_Mo_rename_1 rfl (lv_at hl 2 rfl) ?_
  refine x_callP (va_runS (As := [.int x, .int y]) (rest := []) ⟨hx, hb, hml, hown, htb⟩ (c_Mo_isName l x y) (x_cS 2 htb mw_551 mw_6 mw_553 mw_552 rfl rfl (by decide +kernel) ⟨Nat.le_of_ble_eq_true rfl, Nat.le_of_ble_eq_true rfl⟩) (x_preS hK hN) rfl rfl hl.1 rfl (lv_room (Nat.le_of_ble_eq_true rfl)) d_Mo_rename_2 ⟨Nat.le_of_ble_eq_true rfl, Nat.le_of_ble_eq_true rfl⟩) ?_
  refine W.eq (g2 := F0 m 5 ls [.int (g_okv x y)]) rfl ?_
  refine x_top (y := 1) (g_okv1 hok) ?_
  refine lv_if_eq (tgt := 21) hx hb d_Mo_rename_5 (by decide) (fun c9 => absurd c9 (by decide)) (fun _ => ?_)
  refine lv_iload_n hx hb d_Mo_rename_8 rfl (lv_at hl 3 rfl) ?_
  refine lv_iload hx hb d_Mo_rename_9 (lv_at hl 4 rfl) ?_
  refine x_callP (va_runS (As := [.int x2, .int y2]) (rest := []) ⟨hx, hb, hml, hown, htb⟩ (c_Mo_isName l x2 y2) (x_cS 2 htb mw_551 mw_6 mw_553 mw_552 rfl rfl (by decide +kernel) ⟨Nat.le_of_ble_eq_true rfl, Nat.le_of_ble_eq_true rfl⟩) (x_preS hK hN) rfl rfl hl.1 rfl (lv_room (Nat.le_of_ble_eq_true rfl)) d_Mo_rename_11 ⟨Nat.le_of_ble_eq_true rfl, Nat.le_of_ble_eq_true rfl⟩) ?_
  refine W.eq (g2 := F0 m 14 ls [.int (g_okv x2 y2)]) rfl ?_
  refine x_top (y := 1) (g_okv1 hok2) ?_
  refine lv_if_eq (tgt := 21) hx hb d_Mo_rename_14 (by decide) (fun c9 => absurd c9 (by decide)) (fun _ => ?_)
  refine lv_iconst (v := 1) hx hb d_Mo_rename_17 (by decide) ?_
  refine lv_goto (tgt := 22) hx hb d_Mo_rename_18 (by decide) ?_
  refine lv_istore (lv' := [(5, .int 1), (0, .ref b), (1, .int x), (2, .int y), (3, .int x2), (4, .int y2)]) hx hb d_Mo_rename_22 hl (by decide) rfl (fun ls hl => ?_)
  refine lv_aload_n hx hb d_Mo_rename_24 rfl (lv_at hl 1 rfl) ?_
  refine lv_iload hx hb d_Mo_rename_25 (lv_at hl 0 rfl) ?_
  refine lv_if_ne (tgt := 34) hx hb d_Mo_rename_27 (by decide) (fun _ => ?_) (fun c9 => absurd c9 (by decide))
  refine lv_aload_n hx hb d_Mo_rename_34 rfl (lv_at hl 1 rfl) ?_
  refine lv_iload_n hx hb d_Mo_rename_35 rfl (lv_at hl 2 rfl) ?_
  refine lv_iload_n hx hb d_Mo_rename_36 rfl (lv_at hl 3 rfl) ?_
  refine x_callP (va_runV (As := [.int x, .int y]) (rest := [.ref b]) ⟨hx, hb, hml, hown, htb⟩ (c_Mo_findHere l ho hR x y w4 w3 w2.1 w2.2.1 w2.2.2) (x_cV 2 htb mw_547 mw_6 mw_550 mw_549 ms_8 rfl rfl (by decide +kernel) ⟨Nat.le_of_ble_eq_true rfl, Nat.le_of_ble_eq_true rfl⟩) (x_preV hK hN ho rfl) rfl rfl hl.1 rfl (lv_room (Nat.le_of_ble_eq_true rfl)) d_Mo_rename_37 ⟨Nat.le_of_ble_eq_true rfl, Nat.le_of_ble_eq_true rfl⟩) ?_
  refine W.eq (g2 := F0 m 40 ls [.int (g_ixv (g_find S.2.2.1 (x, y, S.2.1))), .ref b]) rfl ?_
  refine x_top (y := nI i) (congrArg g_ixv hg) ?_
  refine lv_iconst (v := (-1)) hx hb d_Mo_rename_40 (by decide) ?_
  refine lv_icmp_ne (tgt := 48) hx hb d_Mo_rename_41 (by decide) (fun _ => ?_) (fun c9 => absurd c9 (m_nm1 (m_lt w4 i hg)))
  refine lv_aload_n hx hb d_Mo_rename_48 rfl (lv_at hl 1 rfl) ?_
  refine x_get (ci := 8) (T := T_Mo) hx hb htb u_Mo hown hK ho rfl 13 (by decide) (htb _ mw_473) (fun _ h9 => h9) (v := .int (nI S.2.2.2.2.1.length)) rfl d_Mo_rename_49 ?_
  refine lv_sipush (v := 200) hx hb d_Mo_rename_52 (by decide) ?_
  refine lv_icmp_ne (tgt := 62) hx hb d_Mo_rename_55 (by decide) (fun c9 => absurd (by rw [show S.2.2.2.2.1.length = 200 by omega]; rfl) c9) (fun _ => ?_)
  refine lv_iconst (v := 3) hx hb d_Mo_rename_58 (by decide) ?_
  refine lv_goto (tgt := 63) hx hb d_Mo_rename_59 (by decide) ?_
  refine x_put (F := m_fq b) (ci := 8) (v := .int 3) (ty := .int) (T := T_Mo) hx hb htb u_Mo t_Mo t_Mo_ok n_Mo hown hK ho hL ⟨Nat.le_refl _, Nat.le_add_right _ _⟩ rfl 0 (by decide) (htb _ mw_460) (fun _ h9 => h9) rfl (by decide +kernel) rfl rfl (Nat.le_of_ble_eq_true rfl) d_Mo_rename_63 (fun Ht locs hf15 hc16 hL => ?_)
  have hf15 : va_at D x_cl (b, .inr (8, [.int 3, .ref (b + 1), .ref (b + 2), .int (nI S.1.length), .int (nI S.2.1.length), .ref (b + 3), .ref (b + 4), .ref (b + 5), .ref (b + 6), .ref (b + 7), .ref (b + 8), .int (nI S.2.2.1.length), .int (nI S.2.2.2.1.length), .int (nI S.2.2.2.2.1.length), .int (nI S.2.2.2.2.2.1), .ref (b + 9), .ref (b + 10), .ref (b + 11), .int (nI S.2.2.2.2.2.2.length), .ref (b + 12), .ref (b + 13), .ref (b + 14), .ref (b + 15)])) Ht := hf15
  have ho : m_O D b 3 (nI S.1.length) (nI S.2.1.length) (nI S.2.2.1.length) (nI S.2.2.2.1.length) (nI S.2.2.2.2.1.length) (nI S.2.2.2.2.2.1) (nI S.2.2.2.2.2.2.length) Ht := hf15
  have hR := hR.but0 hc16
  have hM := hM.trans (m_K.but0 hc16)
  refine lv_aload_n hx hb d_Mo_rename_66 rfl (lv_at hl 1 rfl) ?_
  refine x_get (ci := 8) (T := T_Mo) hx hb htb u_Mo hown hK ho rfl 0 (by decide) (htb _ mw_460) (fun _ h9 => h9) (v := .int 3) rfl d_Mo_rename_67 ?_
  refine lv_if_ne (tgt := 97) hx hb d_Mo_rename_70 (by decide) (fun _ => ?_) (fun c9 => absurd c9 (by decide))
  exact x_vret hx hb hr hlocks ⟨m_M.th ho hR hV rfl rfl rfl rfl rfl rfl rfl, hM⟩ hL (Nat.le_refl _) (Nat.le_refl _) d_Mo_rename_97
set_option maxHeartbeats 4000000 in
set_option maxRecDepth 100000 in
theorem c_Mo_rename (l : Launch) {D : va_G} {A : Nat → ClassId} {H0 : Heap} {b : Nat} {th : Int32} {S : m_S} (h : m_M D A b th S H0) {x y x2 y2 : Int32} (hok : g_ok x y) (hok2 : g_ok x2 y2) {i : Nat} (hg : g_find S.2.2.1 (x, y, S.2.1) = some i) (hlt : S.2.2.2.2.1.length < 200) : Met l y_Mo_rename w_Mo_rename { frames := 4, cells := 0, slots := 0, locals := 96 } (x_Pc D A [.ref b, .int x, .int y, .int x2, .int y2] H0) (x_Q none (fun H1 => m_M D A b 0 (m_push S S.1 (1, x2, y2, ((x, y, S.2.1), []))) H1 ∧ m_K b H0 H1)) 0 0 (m_fq b) := by
  refine Met.ofW (cc := prog_10_method_16_code) (maxL := 7) (ret := none) (by decide) rfl ?_
  intro p e s m args below meth c s₁ B hml hv
  obtain ⟨rfl, hH, hK, hN⟩ := hv
  obtain ⟨hx, hb, hr, htb, hown, hlocks⟩ := x_start (wd := Cond.code y_Mo_rename prog_10_method_16_code 7 none) B
  have hl := lv_entry ([.ref b, .int x, .int y, .int x2, .int y2]) (n := 7) (Nat.le_of_ble_eq_true rfl)
  rw [lg_entry_eq]
  generalize (lg_sl ([.ref b, .int x, .int y, .int x2, .int y2]) ++ List.replicate (7 - (lg_sl ([.ref b, .int x, .int y, .int x2, .int y2])).length) Slot.unset).toArray = ls at hl ⊢
  have hl : lv_has ls 7 [(0, .ref b), (1, .int x), (2, .int y), (3, .int x2), (4, .int y2)] := hl
  rw [hH]
  obtain ⟨G, ho, hR, hV⟩ := h
  obtain ⟨w1, w2, ⟨w3, w4⟩, ⟨w5, w6⟩, ⟨w7, w8⟩, w9, w10⟩ := id hV
  have hM : m_K b H0 H0 := m_K.refl
  have hL : ∀ q ∈ ([] : List Loc), m_fq b q.base := fun q hq => by cases hq
  refine lv_iload_n hx hb d_Mo_rename_0 rfl (lv_at hl 1 rfl) ?_
  refine lv_iload_n hx hb d_Mo_rename_1 rfl (lv_at hl 2 rfl) ?_
  refine x_callP (va_runS (As := [.int x, .int y]) (rest := []) ⟨hx, hb, hml, hown, htb⟩ (c_Mo_isName l x y) (x_cS 2 htb mw_551 mw_6 mw_553 mw_552 rfl rfl (by decide +kernel) ⟨Nat.le_of_ble_eq_true rfl, Nat.le_of_ble_eq_true rfl⟩) (x_preS hK hN) rfl rfl hl.1 rfl (lv_room (Nat.le_of_ble_eq_true rfl)) d_Mo_rename_2 ⟨Nat.le_of_ble_eq_true rfl, Nat.le_of_ble_eq_true rfl⟩) ?_
  refine W.eq (g2 := F0 m 5 ls [.int (g_okv x y)]) rfl ?_
  refine x_top (y := 1) (g_okv1 hok) ?_
  refine lv_if_eq (tgt := 21) hx hb d_Mo_rename_5 (by decide) (fun c9 => absurd c9 (by decide)) (fun _ => ?_)
  refine lv_iload_n hx hb d_Mo_rename_8 rfl (lv_at hl 3 rfl) ?_
  refine lv_iload hx hb d_Mo_rename_9 (lv_at hl 4 rfl) ?_
  refine x_callP (va_runS (As := [.int x2, .int y2]) (rest := []) ⟨hx, hb, hml, hown, htb⟩ (c_Mo_isName l x2 y2) (x_cS 2 htb mw_551 mw_6 mw_553 mw_552 rfl rfl (by decide +kernel) ⟨Nat.le_of_ble_eq_true rfl, Nat.le_of_ble_eq_true rfl⟩) (x_preS hK hN) rfl rfl hl.1 rfl (lv_room (Nat.le_of_ble_eq_true rfl)) d_Mo_rename_11 ⟨Nat.le_of_ble_eq_true rfl, Nat.le_of_ble_eq_true rfl⟩) ?_
  refine W.eq (g2 := F0 m 14 ls [.int (g_okv x2 y2)]) rfl ?_
  refine x_top (y := 1) (g_okv1 hok2) ?_
  refine lv_if_eq (tgt := 21) hx hb d_Mo_rename_14 (by decide) (fun c9 => absurd c9 (by decide)) (fun _ => ?_)
  refine lv_iconst (v := 1) hx hb d_Mo_rename_17 (by decide) ?_
  refine lv_goto (tgt := 22) hx hb d_Mo_rename_18 (by decide) ?_
  refine lv_istore (lv' := [(5, .int 1), (0, .ref b), (1, .int x), (2, .int y), (3, .int x2), (4, .int y2)]) hx hb d_Mo_rename_22 hl (by decide) rfl (fun ls hl => ?_)
  refine lv_aload_n hx hb d_Mo_rename_24 rfl (lv_at hl 1 rfl) ?_
  refine lv_iload hx hb d_Mo_rename_25 (lv_at hl 0 rfl) ?_
  refine lv_if_ne (tgt := 34) hx hb d_Mo_rename_27 (by decide) (fun _ => ?_) (fun c9 => absurd c9 (by decide))
  refine lv_aload_n hx hb d_Mo_rename_34 rfl (lv_at hl 1 rfl) ?_
  refine lv_iload_n hx hb d_Mo_rename_35 rfl (lv_at hl 2 rfl) ?_
  refine lv_iload_n hx hb d_Mo_rename_36 rfl (lv_at hl 3 rfl) ?_
  refine x_callP (va_runV (As := [.int x, .int y]) (rest := [.ref b]) ⟨hx, hb, hml, hown, htb⟩ (c_Mo_findHere l ho hR x y w4 w3 w2.1 w2.2.1 w2.2.2) (x_cV 2 htb mw_547 mw_6 mw_550 mw_549 ms_8 rfl rfl (by decide +kernel) ⟨Nat.le_of_ble_eq_true rfl, Nat.le_of_ble_eq_true rfl⟩) (x_preV hK hN ho rfl) rfl rfl hl.1 rfl (lv_room (Nat.le_of_ble_eq_true rfl)) d_Mo_rename_37 ⟨Nat.le_of_ble_eq_true rfl, Nat.le_of_ble_eq_true rfl⟩) ?_
  refine W.eq (g2 := F0 m 40 ls [.int (g_ixv (g_find S.2.2.1 (x, y, S.2.1))), .ref b]) rfl ?_
  refine x_top (y := nI i) (congrArg g_ixv hg) ?_
  refine lv_iconst (v := (-1)) hx hb d_Mo_rename_40 (by decide) ?_
  refine lv_icmp_ne (tgt := 48) hx hb d_Mo_rename_41 (by decide) (fun _ => ?_) (fun c9 => absurd c9 (m_nm1 (m_lt w4 i hg)))
  refine lv_aload_n hx hb d_Mo_rename_48 rfl (lv_at hl 1 rfl) ?_
  refine x_get (ci := 8) (T := T_Mo) hx hb htb u_Mo hown hK ho rfl 13 (by decide) (htb _ mw_473) (fun _ h9 => h9) (v := .int (nI S.2.2.2.2.1.length)) rfl d_Mo_rename_49 ?_
  refine lv_sipush (v := 200) hx hb d_Mo_rename_52 (by decide) ?_
  refine lv_icmp_ne (tgt := 62) hx hb d_Mo_rename_55 (by decide) (fun _ => ?_) (fun c9 => absurd c9 (fun q => absurd ((nI_eq (b := 200) (by omega) (by decide)).mp q) (by omega)))
  refine lv_iconst (v := 0) hx hb d_Mo_rename_62 (by decide) ?_
  refine x_put (F := m_fq b) (ci := 8) (v := .int 0) (ty := .int) (T := T_Mo) hx hb htb u_Mo t_Mo t_Mo_ok n_Mo hown hK ho hL ⟨Nat.le_refl _, Nat.le_add_right _ _⟩ rfl 0 (by decide) (htb _ mw_460) (fun _ h9 => h9) rfl (by decide +kernel) rfl rfl (Nat.le_of_ble_eq_true rfl) d_Mo_rename_63 (fun Ht locs hf17 hc18 hL => ?_)
  have hf17 : va_at D x_cl (b, .inr (8, [.int 0, .ref (b + 1), .ref (b + 2), .int (nI S.1.length), .int (nI S.2.1.length), .ref (b + 3), .ref (b + 4), .ref (b + 5), .ref (b + 6), .ref (b + 7), .ref (b + 8), .int (nI S.2.2.1.length), .int (nI S.2.2.2.1.length), .int (nI S.2.2.2.2.1.length), .int (nI S.2.2.2.2.2.1), .ref (b + 9), .ref (b + 10), .ref (b + 11), .int (nI S.2.2.2.2.2.2.length), .ref (b + 12), .ref (b + 13), .ref (b + 14), .ref (b + 15)])) Ht := hf17
  have ho : m_O D b 0 (nI S.1.length) (nI S.2.1.length) (nI S.2.2.1.length) (nI S.2.2.2.1.length) (nI S.2.2.2.2.1.length) (nI S.2.2.2.2.2.1) (nI S.2.2.2.2.2.2.length) Ht := hf17
  have hR := hR.but0 hc18
  have hM := hM.trans (m_K.but0 hc18)
  refine lv_aload_n hx hb d_Mo_rename_66 rfl (lv_at hl 1 rfl) ?_
  refine x_get (ci := 8) (T := T_Mo) hx hb htb u_Mo hown hK ho rfl 0 (by decide) (htb _ mw_460) (fun _ h9 => h9) (v := .int 0) rfl d_Mo_rename_67 ?_
  refine lv_if_ne (tgt := 97) hx hb d_Mo_rename_70 (by decide) (fun c9 => absurd rfl c9) (fun _ => ?_)
  refine lv_aload_n hx hb d_Mo_rename_73 rfl (lv_at hl 1 rfl) ?_
  refine x_callP (va_runV (As := []) (rest := []) ⟨hx, hb, hml, hown, htb⟩ (c_Mo_entry l ho hR hlt) (x_cV 0 htb mw_554 mw_6 mw_557 mw_556 ms_9 rfl rfl (by decide +kernel) ⟨Nat.le_of_ble_eq_true rfl, Nat.le_of_ble_eq_true rfl⟩) (x_preV hK hN ho rfl) rfl rfl hl.1 rfl (lv_room (Nat.le_of_ble_eq_true rfl)) d_Mo_rename_74 ⟨Nat.le_of_ble_eq_true rfl, Nat.le_of_ble_eq_true rfl⟩) ?_
  refine W.eq (g2 := F0 m 77 ls [.int (nI (120 + S.2.2.2.2.1.length))]) rfl ?_
  refine lv_istore (lv' := [(6, .int (nI (120 + S.2.2.2.2.1.length))), (5, .int 1), (0, .ref b), (1, .int x), (2, .int y), (3, .int x2), (4, .int y2)]) hx hb d_Mo_rename_77 hl (by decide) rfl (fun ls hl => ?_)
  refine lv_aload_n hx hb d_Mo_rename_79 rfl (lv_at hl 2 rfl) ?_
  refine lv_iload hx hb d_Mo_rename_80 (lv_at hl 0 rfl) ?_
  refine lv_iload_n hx hb d_Mo_rename_82 rfl (lv_at hl 3 rfl) ?_
  refine lv_iload_n hx hb d_Mo_rename_83 rfl (lv_at hl 4 rfl) ?_
  refine x_call (F := m_fq b) (va_runV (As := [.int (nI (120 + S.2.2.2.2.1.length)), .int x, .int y]) (rest := []) ⟨hx, hb, hml, hown, htb⟩ (c_Mo_name l ho hR (j := 120 + S.2.2.2.2.1.length) x y (by omega) w2.1 w2.2.1 w2.2.2) (x_cV 3 htb mw_558 mw_6 mw_561 mw_560 ms_10 rfl rfl (by decide +kernel) ⟨Nat.le_of_ble_eq_true rfl, Nat.le_of_ble_eq_true rfl⟩) (x_preV hK hN ho rfl) rfl rfl hl.1 rfl (lv_room (Nat.le_of_ble_eq_true rfl)) d_Mo_rename_84 ⟨Nat.le_of_ble_eq_true rfl, Nat.le_of_ble_eq_true rfl⟩) hL (fun q hq => hq) (fun H2 locs hP hL => ?_)
  refine W.eq (g2 := F0 m 87 ls []) rfl ?_
  obtain ⟨G1, ho, hR, q3, q4, q5⟩ := hP
  have hM := hM.trans q3
  refine lv_aload_n hx hb d_Mo_rename_87 rfl (lv_at hl 2 rfl) ?_
  refine lv_iconst (v := 1) hx hb d_Mo_rename_88 (by decide) ?_
  refine lv_iload hx hb d_Mo_rename_89 (lv_at hl 0 rfl) ?_
  refine lv_iload_n hx hb d_Mo_rename_91 rfl (lv_at hl 5 rfl) ?_
  refine lv_iload hx hb d_Mo_rename_92 (lv_at hl 6 rfl) ?_
  have hmo : m_ok S.2.2.1 (1, x2, y2, ((x, y, S.2.1), [])) := Or.inr ⟨i, hg⟩
  refine x_call (F := m_fq b) (va_runV (As := [.int 1, .int (nI (120 + S.2.2.2.2.1.length)), .int x2, .int y2]) (rest := []) ⟨hx, hb, hml, hown, htb⟩ (c_Mo_add l ho hR (o := (1, x2, y2, ((x, y, S.2.1), []))) _ w4 (q5.L (Or.inr (by omega)) w3) hlt q4 hmo) (x_cV 4 htb mw_562 mw_6 mw_565 mw_564 ms_11 rfl rfl (by decide +kernel) ⟨Nat.le_of_ble_eq_true rfl, Nat.le_of_ble_eq_true rfl⟩) (x_preV hK hN ho rfl) rfl rfl hl.1 rfl (lv_room (Nat.le_of_ble_eq_true rfl)) d_Mo_rename_94 ⟨Nat.le_of_ble_eq_true rfl, Nat.le_of_ble_eq_true rfl⟩) hL (fun q hq => hq) (fun H3 locs hP hL => ?_)
  refine W.eq (g2 := F0 m 97 ls []) rfl ?_
  obtain ⟨G2, ho, hR, q6, q7, q8, q9⟩ := hP
  exact x_vret hx hb hr hlocks ⟨m_M.th ho hR (hV.push hlt (Or.inr rfl) q5 q9 q8 q7 (m_act_len hmo w4)) rfl rfl rfl rfl (by show _ = nI (S.2.2.2.2.1 ++ [(1, x2, y2, ((x, y, S.2.1), []))]).length; rw [List.length_append]; rfl) rfl rfl, hM.trans q6⟩ hL (Nat.le_refl _) (Nat.le_refl _) d_Mo_rename_97
end
