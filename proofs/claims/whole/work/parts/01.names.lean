-- ===== PART A: goes FIRST, ahead of the names: the tables' words, and 'selects' of the private methods out of them =====
/-- a private method of a class that the tables say can be made, by its rows of tables_1 -/
def lw_okq (q : MethodName × Nat) : Prop := (q.1.cls ≠ "java/lang/invoke/MethodHandle" ∧ q.1.cls ≠ "java/lang/invoke/VarHandle") ∧ Cond.instantiable q.1.cls q.2 ∈ tables_1 ∧ Cond.privateMethod q.1 ∈ tables_1 ∧ Cond.instanceMethod q.1 ∈ tables_1
theorem lw_p0 : lw_okq (⟨"SandWorkers", "startTrial", "()V"⟩, 4) := ⟨⟨by decide +kernel, by decide +kernel⟩, List.mem_of_getElem? (i := 14) (by decide +kernel), List.mem_of_getElem? (i := 251) (by decide +kernel), List.mem_of_getElem? (i := 252) (by decide +kernel)⟩
theorem lw_p1 : lw_okq (⟨"SandWorkers", "keepTrial", "(I)I"⟩, 4) := ⟨⟨by decide +kernel, by decide +kernel⟩, List.mem_of_getElem? (i := 14) (by decide +kernel), List.mem_of_getElem? (i := 292) (by decide +kernel), List.mem_of_getElem? (i := 293) (by decide +kernel)⟩
theorem lw_p2 : lw_okq (⟨"SandWorkers$History", "dropOldest", "()V"⟩, 2) := ⟨⟨by decide +kernel, by decide +kernel⟩, List.mem_of_getElem? (i := 181) (by decide +kernel), List.mem_of_getElem? (i := 300) (by decide +kernel), List.mem_of_getElem? (i := 301) (by decide +kernel)⟩
theorem lw_p3 : lw_okq (⟨"SandWorkers$Game", "addIfDue", "(I)V"⟩, 7) := ⟨⟨by decide +kernel, by decide +kernel⟩, List.mem_of_getElem? (i := 22) (by decide +kernel), List.mem_of_getElem? (i := 415) (by decide +kernel), List.mem_of_getElem? (i := 416) (by decide +kernel)⟩
theorem lw_p4 : lw_okq (⟨"SandWorkers$Game", "finishDue", "()I"⟩, 7) := ⟨⟨by decide +kernel, by decide +kernel⟩, List.mem_of_getElem? (i := 22) (by decide +kernel), List.mem_of_getElem? (i := 419) (by decide +kernel), List.mem_of_getElem? (i := 420) (by decide +kernel)⟩
theorem lw_p5 : lw_okq (⟨"SandWorkers$Game", "takeEffect", "(II)V"⟩, 7) := ⟨⟨by decide +kernel, by decide +kernel⟩, List.mem_of_getElem? (i := 22) (by decide +kernel), List.mem_of_getElem? (i := 428) (by decide +kernel), List.mem_of_getElem? (i := 429) (by decide +kernel)⟩
theorem lw_p6 : lw_okq (⟨"SandWorkers$Glasses", "aheadOnTask", "(I)I"⟩, 8) := ⟨⟨by decide +kernel, by decide +kernel⟩, List.mem_of_getElem? (i := 53) (by decide +kernel), List.mem_of_getElem? (i := 526) (by decide +kernel), List.mem_of_getElem? (i := 527) (by decide +kernel)⟩
theorem lw_p7 : lw_okq (⟨"SandWorkers$Orders", "readOrder", "()Z"⟩, 8) := ⟨⟨by decide +kernel, by decide +kernel⟩, List.mem_of_getElem? (i := 198) (by decide +kernel), List.mem_of_getElem? (i := 653) (by decide +kernel), List.mem_of_getElem? (i := 654) (by decide +kernel)⟩
theorem lw_p8 : lw_okq (⟨"SandWorkers$Orders", "signAt", "(I)I"⟩, 8) := ⟨⟨by decide +kernel, by decide +kernel⟩, List.mem_of_getElem? (i := 198) (by decide +kernel), List.mem_of_getElem? (i := 657) (by decide +kernel), List.mem_of_getElem? (i := 658) (by decide +kernel)⟩
theorem lw_p9 : lw_okq (⟨"SandWorkers$Orders", "readNumber", "(I)Z"⟩, 8) := ⟨⟨by decide +kernel, by decide +kernel⟩, List.mem_of_getElem? (i := 198) (by decide +kernel), List.mem_of_getElem? (i := 665) (by decide +kernel), List.mem_of_getElem? (i := 666) (by decide +kernel)⟩
theorem lw_p10 : lw_okq (⟨"SandWorkers$Orders", "readSign", "(I)Z"⟩, 8) := ⟨⟨by decide +kernel, by decide +kernel⟩, List.mem_of_getElem? (i := 198) (by decide +kernel), List.mem_of_getElem? (i := 669) (by decide +kernel), List.mem_of_getElem? (i := 670) (by decide +kernel)⟩
theorem lw_p11 : lw_okq (⟨"SandWorkers$Orders", "obey", "(LSandWorkers$Game;I)I"⟩, 8) := ⟨⟨by decide +kernel, by decide +kernel⟩, List.mem_of_getElem? (i := 198) (by decide +kernel), List.mem_of_getElem? (i := 673) (by decide +kernel), List.mem_of_getElem? (i := 674) (by decide +kernel)⟩
theorem lw_p12 : lw_okq (⟨"SandWorkersModel", "changes", "()V"⟩, 17) := ⟨⟨by decide +kernel, by decide +kernel⟩, List.mem_of_getElem? (i := 687) (by decide +kernel), List.mem_of_getElem? (i := 750) (by decide +kernel), List.mem_of_getElem? (i := 751) (by decide +kernel)⟩
theorem lw_p13 : lw_okq (⟨"SandWorkersModel", "isWorker", "(II)Z"⟩, 17) := ⟨⟨by decide +kernel, by decide +kernel⟩, List.mem_of_getElem? (i := 687) (by decide +kernel), List.mem_of_getElem? (i := 758) (by decide +kernel), List.mem_of_getElem? (i := 759) (by decide +kernel)⟩
theorem lw_p14 : lw_okq (⟨"SandWorkersModel", "isPlayer", "(I)Z"⟩, 17) := ⟨⟨by decide +kernel, by decide +kernel⟩, List.mem_of_getElem? (i := 687) (by decide +kernel), List.mem_of_getElem? (i := 762) (by decide +kernel), List.mem_of_getElem? (i := 763) (by decide +kernel)⟩
theorem lw_p15 : lw_okq (⟨"SandWorkersModel", "of", "(II)I"⟩, 17) := ⟨⟨by decide +kernel, by decide +kernel⟩, List.mem_of_getElem? (i := 687) (by decide +kernel), List.mem_of_getElem? (i := 770) (by decide +kernel), List.mem_of_getElem? (i := 771) (by decide +kernel)⟩
def lw_privs_1 : List (MethodName × Nat) := [(⟨"SandWorkers", "startTrial", "()V"⟩, 4), (⟨"SandWorkers", "keepTrial", "(I)I"⟩, 4), (⟨"SandWorkers$History", "dropOldest", "()V"⟩, 2), (⟨"SandWorkers$Game", "addIfDue", "(I)V"⟩, 7), (⟨"SandWorkers$Game", "finishDue", "()I"⟩, 7), (⟨"SandWorkers$Game", "takeEffect", "(II)V"⟩, 7), (⟨"SandWorkers$Glasses", "aheadOnTask", "(I)I"⟩, 8), (⟨"SandWorkers$Orders", "readOrder", "()Z"⟩, 8), (⟨"SandWorkers$Orders", "signAt", "(I)I"⟩, 8), (⟨"SandWorkers$Orders", "readNumber", "(I)Z"⟩, 8), (⟨"SandWorkers$Orders", "readSign", "(I)Z"⟩, 8), (⟨"SandWorkers$Orders", "obey", "(LSandWorkers$Game;I)I"⟩, 8), (⟨"SandWorkersModel", "changes", "()V"⟩, 17), (⟨"SandWorkersModel", "isWorker", "(II)Z"⟩, 17), (⟨"SandWorkersModel", "isPlayer", "(I)Z"⟩, 17), (⟨"SandWorkersModel", "of", "(II)I"⟩, 17)]
theorem lw_r1 : ∀ q ∈ lw_privs_1, lw_okq q := List.forall_mem_cons.mpr ⟨lw_p0, List.forall_mem_cons.mpr ⟨lw_p1, List.forall_mem_cons.mpr ⟨lw_p2, List.forall_mem_cons.mpr ⟨lw_p3, List.forall_mem_cons.mpr ⟨lw_p4, List.forall_mem_cons.mpr ⟨lw_p5, List.forall_mem_cons.mpr ⟨lw_p6, List.forall_mem_cons.mpr ⟨lw_p7, List.forall_mem_cons.mpr ⟨lw_p8, List.forall_mem_cons.mpr ⟨lw_p9, List.forall_mem_cons.mpr ⟨lw_p10, List.forall_mem_cons.mpr ⟨lw_p11, List.forall_mem_cons.mpr ⟨lw_p12, List.forall_mem_cons.mpr ⟨lw_p13, List.forall_mem_cons.mpr ⟨lw_p14, List.forall_mem_cons.mpr ⟨lw_p15, fun _ h => absurd h List.not_mem_nil⟩⟩⟩⟩⟩⟩⟩⟩⟩⟩⟩⟩⟩⟩⟩⟩
theorem lw_p16 : lw_okq (⟨"SandWorkersModel", "isTask", "(I)Z"⟩, 17) := ⟨⟨by decide +kernel, by decide +kernel⟩, List.mem_of_getElem? (i := 687) (by decide +kernel), List.mem_of_getElem? (i := 787) (by decide +kernel), List.mem_of_getElem? (i := 788) (by decide +kernel)⟩
theorem lw_p17 : lw_okq (⟨"SandWorkersModel", "canPut", "(II)Z"⟩, 17) := ⟨⟨by decide +kernel, by decide +kernel⟩, List.mem_of_getElem? (i := 687) (by decide +kernel), List.mem_of_getElem? (i := 791) (by decide +kernel), List.mem_of_getElem? (i := 792) (by decide +kernel)⟩
theorem lw_p18 : lw_okq (⟨"SandWorkersModel", "left", "(I)I"⟩, 17) := ⟨⟨by decide +kernel, by decide +kernel⟩, List.mem_of_getElem? (i := 687) (by decide +kernel), List.mem_of_getElem? (i := 795) (by decide +kernel), List.mem_of_getElem? (i := 796) (by decide +kernel)⟩
theorem lw_p19 : lw_okq (⟨"SandWorkersModel", "ofTask", "(II)I"⟩, 17) := ⟨⟨by decide +kernel, by decide +kernel⟩, List.mem_of_getElem? (i := 687) (by decide +kernel), List.mem_of_getElem? (i := 799) (by decide +kernel), List.mem_of_getElem? (i := 800) (by decide +kernel)⟩
theorem lw_p20 : lw_okq (⟨"SandWorkersModel", "workers", "()I"⟩, 17) := ⟨⟨by decide +kernel, by decide +kernel⟩, List.mem_of_getElem? (i := 687) (by decide +kernel), List.mem_of_getElem? (i := 803) (by decide +kernel), List.mem_of_getElem? (i := 804) (by decide +kernel)⟩
theorem lw_p21 : lw_okq (⟨"SandWorkersModel", "has", "(II)Z"⟩, 17) := ⟨⟨by decide +kernel, by decide +kernel⟩, List.mem_of_getElem? (i := 687) (by decide +kernel), List.mem_of_getElem? (i := 807) (by decide +kernel), List.mem_of_getElem? (i := 808) (by decide +kernel)⟩
theorem lw_p22 : lw_okq (⟨"SandWorkersModel", "puts", "(II)V"⟩, 17) := ⟨⟨by decide +kernel, by decide +kernel⟩, List.mem_of_getElem? (i := 687) (by decide +kernel), List.mem_of_getElem? (i := 814) (by decide +kernel), List.mem_of_getElem? (i := 815) (by decide +kernel)⟩
theorem lw_p23 : lw_okq (⟨"SandWorkersModel", "pays", "(II)V"⟩, 17) := ⟨⟨by decide +kernel, by decide +kernel⟩, List.mem_of_getElem? (i := 687) (by decide +kernel), List.mem_of_getElem? (i := 818) (by decide +kernel), List.mem_of_getElem? (i := 819) (by decide +kernel)⟩
theorem lw_p24 : lw_okq (⟨"SandWorkersModel", "flips", "(I)V"⟩, 17) := ⟨⟨by decide +kernel, by decide +kernel⟩, List.mem_of_getElem? (i := 687) (by decide +kernel), List.mem_of_getElem? (i := 830) (by decide +kernel), List.mem_of_getElem? (i := 831) (by decide +kernel)⟩
theorem lw_p25 : lw_okq (⟨"SandWorkersModel", "works", "()V"⟩, 17) := ⟨⟨by decide +kernel, by decide +kernel⟩, List.mem_of_getElem? (i := 687) (by decide +kernel), List.mem_of_getElem? (i := 834) (by decide +kernel), List.mem_of_getElem? (i := 835) (by decide +kernel)⟩
theorem lw_p26 : lw_okq (⟨"SandWorkersModel", "gains", "(II)V"⟩, 17) := ⟨⟨by decide +kernel, by decide +kernel⟩, List.mem_of_getElem? (i := 687) (by decide +kernel), List.mem_of_getElem? (i := 838) (by decide +kernel), List.mem_of_getElem? (i := 839) (by decide +kernel)⟩
theorem lw_p27 : lw_okq (⟨"SandWorkersModel", "isContract", "(I)Z"⟩, 17) := ⟨⟨by decide +kernel, by decide +kernel⟩, List.mem_of_getElem? (i := 687) (by decide +kernel), List.mem_of_getElem? (i := 846) (by decide +kernel), List.mem_of_getElem? (i := 847) (by decide +kernel)⟩
theorem lw_p28 : lw_okq (⟨"SandWorkersModel", "goes", "()V"⟩, 17) := ⟨⟨by decide +kernel, by decide +kernel⟩, List.mem_of_getElem? (i := 687) (by decide +kernel), List.mem_of_getElem? (i := 854) (by decide +kernel), List.mem_of_getElem? (i := 855) (by decide +kernel)⟩
theorem lw_p29 : lw_okq (⟨"SandWorkersModel", "outs", "(I)I"⟩, 17) := ⟨⟨by decide +kernel, by decide +kernel⟩, List.mem_of_getElem? (i := 687) (by decide +kernel), List.mem_of_getElem? (i := 862) (by decide +kernel), List.mem_of_getElem? (i := 863) (by decide +kernel)⟩
theorem lw_p30 : lw_okq (⟨"SandWorkersModel", "waited", "(I)I"⟩, 17) := ⟨⟨by decide +kernel, by decide +kernel⟩, List.mem_of_getElem? (i := 687) (by decide +kernel), List.mem_of_getElem? (i := 866) (by decide +kernel), List.mem_of_getElem? (i := 867) (by decide +kernel)⟩
theorem lw_p31 : lw_okq (⟨"SandWorkersModel", "nextOut", "(I)I"⟩, 17) := ⟨⟨by decide +kernel, by decide +kernel⟩, List.mem_of_getElem? (i := 687) (by decide +kernel), List.mem_of_getElem? (i := 870) (by decide +kernel), List.mem_of_getElem? (i := 871) (by decide +kernel)⟩
def lw_privs_2 : List (MethodName × Nat) := [(⟨"SandWorkersModel", "isTask", "(I)Z"⟩, 17), (⟨"SandWorkersModel", "canPut", "(II)Z"⟩, 17), (⟨"SandWorkersModel", "left", "(I)I"⟩, 17), (⟨"SandWorkersModel", "ofTask", "(II)I"⟩, 17), (⟨"SandWorkersModel", "workers", "()I"⟩, 17), (⟨"SandWorkersModel", "has", "(II)Z"⟩, 17), (⟨"SandWorkersModel", "puts", "(II)V"⟩, 17), (⟨"SandWorkersModel", "pays", "(II)V"⟩, 17), (⟨"SandWorkersModel", "flips", "(I)V"⟩, 17), (⟨"SandWorkersModel", "works", "()V"⟩, 17), (⟨"SandWorkersModel", "gains", "(II)V"⟩, 17), (⟨"SandWorkersModel", "isContract", "(I)Z"⟩, 17), (⟨"SandWorkersModel", "goes", "()V"⟩, 17), (⟨"SandWorkersModel", "outs", "(I)I"⟩, 17), (⟨"SandWorkersModel", "waited", "(I)I"⟩, 17), (⟨"SandWorkersModel", "nextOut", "(I)I"⟩, 17)]
theorem lw_r2 : ∀ q ∈ lw_privs_2, lw_okq q := List.forall_mem_cons.mpr ⟨lw_p16, List.forall_mem_cons.mpr ⟨lw_p17, List.forall_mem_cons.mpr ⟨lw_p18, List.forall_mem_cons.mpr ⟨lw_p19, List.forall_mem_cons.mpr ⟨lw_p20, List.forall_mem_cons.mpr ⟨lw_p21, List.forall_mem_cons.mpr ⟨lw_p22, List.forall_mem_cons.mpr ⟨lw_p23, List.forall_mem_cons.mpr ⟨lw_p24, List.forall_mem_cons.mpr ⟨lw_p25, List.forall_mem_cons.mpr ⟨lw_p26, List.forall_mem_cons.mpr ⟨lw_p27, List.forall_mem_cons.mpr ⟨lw_p28, List.forall_mem_cons.mpr ⟨lw_p29, List.forall_mem_cons.mpr ⟨lw_p30, List.forall_mem_cons.mpr ⟨lw_p31, fun _ h => absurd h List.not_mem_nil⟩⟩⟩⟩⟩⟩⟩⟩⟩⟩⟩⟩⟩⟩⟩⟩
theorem lw_p32 : lw_okq (⟨"SandWorkersModel", "anySand", "()Z"⟩, 17) := ⟨⟨by decide +kernel, by decide +kernel⟩, List.mem_of_getElem? (i := 687) (by decide +kernel), List.mem_of_getElem? (i := 901) (by decide +kernel), List.mem_of_getElem? (i := 902) (by decide +kernel)⟩
theorem lw_p33 : lw_okq (⟨"SandWorkersModel", "sum", "(I)I"⟩, 17) := ⟨⟨by decide +kernel, by decide +kernel⟩, List.mem_of_getElem? (i := 687) (by decide +kernel), List.mem_of_getElem? (i := 913) (by decide +kernel), List.mem_of_getElem? (i := 914) (by decide +kernel)⟩
theorem lw_p34 : lw_okq (⟨"SandWorkersModel", "ahead", "()I"⟩, 17) := ⟨⟨by decide +kernel, by decide +kernel⟩, List.mem_of_getElem? (i := 687) (by decide +kernel), List.mem_of_getElem? (i := 939) (by decide +kernel), List.mem_of_getElem? (i := 940) (by decide +kernel)⟩
theorem lw_p35 : lw_okq (⟨"SandWorkersModel", "goods", "(I)I"⟩, 17) := ⟨⟨by decide +kernel, by decide +kernel⟩, List.mem_of_getElem? (i := 687) (by decide +kernel), List.mem_of_getElem? (i := 943) (by decide +kernel), List.mem_of_getElem? (i := 944) (by decide +kernel)⟩
theorem lw_p36 : lw_okq (⟨"SandWorkersModel", "plays", "()Z"⟩, 17) := ⟨⟨by decide +kernel, by decide +kernel⟩, List.mem_of_getElem? (i := 687) (by decide +kernel), List.mem_of_getElem? (i := 963) (by decide +kernel), List.mem_of_getElem? (i := 964) (by decide +kernel)⟩
theorem lw_p37 : lw_okq (⟨"SandWorkersModel", "reads", "()Z"⟩, 17) := ⟨⟨by decide +kernel, by decide +kernel⟩, List.mem_of_getElem? (i := 687) (by decide +kernel), List.mem_of_getElem? (i := 967) (by decide +kernel), List.mem_of_getElem? (i := 968) (by decide +kernel)⟩
theorem lw_p38 : lw_okq (⟨"SandWorkersModel", "isAt", "(II)Z"⟩, 17) := ⟨⟨by decide +kernel, by decide +kernel⟩, List.mem_of_getElem? (i := 687) (by decide +kernel), List.mem_of_getElem? (i := 971) (by decide +kernel), List.mem_of_getElem? (i := 972) (by decide +kernel)⟩
theorem lw_p39 : lw_okq (⟨"SandWorkersModel", "number", "(I)Z"⟩, 17) := ⟨⟨by decide +kernel, by decide +kernel⟩, List.mem_of_getElem? (i := 687) (by decide +kernel), List.mem_of_getElem? (i := 978) (by decide +kernel), List.mem_of_getElem? (i := 979) (by decide +kernel)⟩
theorem lw_p40 : lw_okq (⟨"SandWorkersModel", "sign", "(I)Z"⟩, 17) := ⟨⟨by decide +kernel, by decide +kernel⟩, List.mem_of_getElem? (i := 687) (by decide +kernel), List.mem_of_getElem? (i := 982) (by decide +kernel), List.mem_of_getElem? (i := 983) (by decide +kernel)⟩
theorem lw_p41 : lw_okq (⟨"SandWorkersModel", "calls", "()I"⟩, 17) := ⟨⟨by decide +kernel, by decide +kernel⟩, List.mem_of_getElem? (i := 687) (by decide +kernel), List.mem_of_getElem? (i := 986) (by decide +kernel), List.mem_of_getElem? (i := 987) (by decide +kernel)⟩
def lw_privs_3 : List (MethodName × Nat) := [(⟨"SandWorkersModel", "anySand", "()Z"⟩, 17), (⟨"SandWorkersModel", "sum", "(I)I"⟩, 17), (⟨"SandWorkersModel", "ahead", "()I"⟩, 17), (⟨"SandWorkersModel", "goods", "(I)I"⟩, 17), (⟨"SandWorkersModel", "plays", "()Z"⟩, 17), (⟨"SandWorkersModel", "reads", "()Z"⟩, 17), (⟨"SandWorkersModel", "isAt", "(II)Z"⟩, 17), (⟨"SandWorkersModel", "number", "(I)Z"⟩, 17), (⟨"SandWorkersModel", "sign", "(I)Z"⟩, 17), (⟨"SandWorkersModel", "calls", "()I"⟩, 17)]
theorem lw_r3 : ∀ q ∈ lw_privs_3, lw_okq q := List.forall_mem_cons.mpr ⟨lw_p32, List.forall_mem_cons.mpr ⟨lw_p33, List.forall_mem_cons.mpr ⟨lw_p34, List.forall_mem_cons.mpr ⟨lw_p35, List.forall_mem_cons.mpr ⟨lw_p36, List.forall_mem_cons.mpr ⟨lw_p37, List.forall_mem_cons.mpr ⟨lw_p38, List.forall_mem_cons.mpr ⟨lw_p39, List.forall_mem_cons.mpr ⟨lw_p40, List.forall_mem_cons.mpr ⟨lw_p41, fun _ h => absurd h List.not_mem_nil⟩⟩⟩⟩⟩⟩⟩⟩⟩⟩
def lw_privs : List (MethodName × Nat) := lw_privs_1 ++ (lw_privs_2 ++ (lw_privs_3))
def lw_tbl : List Cond := k2_sels lw_privs ++ tables_1
theorem lw_privs_ok : ∀ q ∈ lw_privs, lw_okq q := by
  show ∀ q ∈ lw_privs_1 ++ (lw_privs_2 ++ (lw_privs_3)), lw_okq q
  exact List.forall_mem_append.mpr ⟨lw_r1, List.forall_mem_append.mpr ⟨lw_r2, lw_r3⟩⟩
/-- the streams that the claim lets the run draw from -/
abbrev lw_cs : List Choice := [Jvm.Choice.named "NaN.bits"]
theorem lw_bits : nanBits ∈ lw_cs := by first | decide | exact List.mem_cons_self | simp [lw_cs, nanBits]
def RX0 : String := "SandWorkers$Contracts"
def TX0 : u_T := fun k => match k with
  | 0 => ("SandWorkers$Contracts", "count", "I", false)
  | 1 => ("SandWorkers$Contracts", "price", "[I", true)
  | _ => ("SandWorkers$Contracts", "points", "[I", true)
def tyX0 : Nat → FieldType := fun k => match k with
  | 0 => .int
  | 1 => .array .int
  | _ => .array .int
theorem nmX0 : ∀ a, a < 3 → ∀ b, b < 3 → a ≠ b → (TX0 a).2.1 ≠ (TX0 b).2.1 := by decide +kernel
theorem tyX0_ok : ∀ k, k < 3 → parseFieldDescriptor (TX0 k).2.2.1 = some (tyX0 k) := by decide +kernel
abbrev cX0_init : ByteArray := prog_2_method_1_code
def yX0_init : MethodName := ⟨RX0, "<init>", "()V"⟩
abbrev cX0_copyFrom : ByteArray := prog_2_method_2_code
def yX0_copyFrom : MethodName := ⟨RX0, "copyFrom", "(LSandWorkers$Contracts;)V"⟩
abbrev cX0_remove : ByteArray := prog_2_method_3_code
def yX0_remove : MethodName := ⟨RX0, "remove", "(I)V"⟩
def RX1 : String := "SandWorkers$Game"
def TX1 : u_T := fun k => match k with
  | 0 => ("SandWorkers$Game", "seconds", "I", false)
  | 1 => ("SandWorkers$Game", "players", "LSandWorkers$Players;", true)
  | 2 => ("SandWorkers$Game", "glasses", "LSandWorkers$Glasses;", true)
  | 3 => ("SandWorkers$Game", "tasks", "LSandWorkers$Tasks;", true)
  | 4 => ("SandWorkers$Game", "contracts", "LSandWorkers$Contracts;", true)
  | 5 => ("SandWorkers$Game", "due", "[I", true)
  | _ => ("SandWorkers$Game", "dueCount", "I", false)
def tyX1 : Nat → FieldType := fun k => match k with
  | 0 => .int
  | 1 => .object "SandWorkers$Players"
  | 2 => .object "SandWorkers$Glasses"
  | 3 => .object "SandWorkers$Tasks"
  | 4 => .object "SandWorkers$Contracts"
  | 5 => .array .int
  | _ => .int
theorem nmX1 : ∀ a, a < 7 → ∀ b, b < 7 → a ≠ b → (TX1 a).2.1 ≠ (TX1 b).2.1 := by decide +kernel
theorem tyX1_ok : ∀ k, k < 7 → parseFieldDescriptor (TX1 k).2.2.1 = some (tyX1 k) := by decide +kernel
abbrev cX1_init : ByteArray := prog_3_method_1_code
def yX1_init : MethodName := ⟨RX1, "<init>", "()V"⟩
abbrev cX1_copyFrom : ByteArray := prog_3_method_2_code
def yX1_copyFrom : MethodName := ⟨RX1, "copyFrom", "(LSandWorkers$Game;)V"⟩
abbrev cX1_hasPlayer : ByteArray := prog_3_method_3_code
def yX1_hasPlayer : MethodName := ⟨RX1, "hasPlayer", "(I)Z"⟩
abbrev cX1_hasWorker : ByteArray := prog_3_method_4_code
def yX1_hasWorker : MethodName := ⟨RX1, "hasWorker", "(II)Z"⟩
abbrev cX1_hasTask : ByteArray := prog_3_method_5_code
def yX1_hasTask : MethodName := ⟨RX1, "hasTask", "(I)Z"⟩
abbrev cX1_hasContract : ByteArray := prog_3_method_6_code
def yX1_hasContract : MethodName := ⟨RX1, "hasContract", "(I)Z"⟩
abbrev cX1_addPlayer : ByteArray := prog_3_method_7_code
def yX1_addPlayer : MethodName := ⟨RX1, "addPlayer", "()I"⟩
abbrev cX1_setSize : ByteArray := prog_3_method_8_code
def yX1_setSize : MethodName := ⟨RX1, "setSize", "(III)I"⟩
abbrev cX1_addTask : ByteArray := prog_3_method_9_code
def yX1_addTask : MethodName := ⟨RX1, "addTask", "(IIII)I"⟩
abbrev cX1_layContract : ByteArray := prog_3_method_10_code
def yX1_layContract : MethodName := ⟨RX1, "layContract", "(II)I"⟩
abbrev cX1_placesLeft : ByteArray := prog_3_method_11_code
def yX1_placesLeft : MethodName := ⟨RX1, "placesLeft", "(I)I"⟩
abbrev cX1_canBePut : ByteArray := prog_3_method_12_code
def yX1_canBePut : MethodName := ⟨RX1, "canBePut", "(II)Z"⟩
abbrev cX1_putWorker : ByteArray := prog_3_method_13_code
def yX1_putWorker : MethodName := ⟨RX1, "putWorker", "(III)I"⟩
abbrev cX1_takeHome : ByteArray := prog_3_method_14_code
def yX1_takeHome : MethodName := ⟨RX1, "takeHome", "(II)I"⟩
abbrev cX1_flipByHand : ByteArray := prog_3_method_15_code
def yX1_flipByHand : MethodName := ⟨RX1, "flipByHand", "(II)I"⟩
abbrev cX1_buyContract : ByteArray := prog_3_method_16_code
def yX1_buyContract : MethodName := ⟨RX1, "buyContract", "(II)I"⟩
abbrev cX1_letPass : ByteArray := prog_3_method_17_code
def yX1_letPass : MethodName := ⟨RX1, "letPass", "(I)I"⟩
abbrev cX1_advance : ByteArray := prog_3_method_18_code
def yX1_advance : MethodName := ⟨RX1, "advance", "(I)I"⟩
abbrev cX1_addIfDue : ByteArray := prog_3_method_19_code
def yX1_addIfDue : MethodName := ⟨RX1, "addIfDue", "(I)V"⟩
abbrev cX1_finishDue : ByteArray := prog_3_method_20_code
def yX1_finishDue : MethodName := ⟨RX1, "finishDue", "()I"⟩
abbrev cX1_takeEffect : ByteArray := prog_3_method_21_code
def yX1_takeEffect : MethodName := ⟨RX1, "takeEffect", "(II)V"⟩
abbrev cX1_untilOneIsOut : ByteArray := prog_3_method_22_code
def yX1_untilOneIsOut : MethodName := ⟨RX1, "untilOneIsOut", "(I)I"⟩
abbrev cX1_bestTask : ByteArray := prog_3_method_23_code
def yX1_bestTask : MethodName := ⟨RX1, "bestTask", "(I)I"⟩
abbrev cX1_untilAffordable : ByteArray := prog_3_method_24_code
def yX1_untilAffordable : MethodName := ⟨RX1, "untilAffordable", "(III)I"⟩
def RX2 : String := "SandWorkers$Glasses"
def TX2 : u_T := fun k => match k with
  | 0 => ("SandWorkers$Glasses", "puts", "I", false)
  | 1 => ("SandWorkers$Glasses", "size", "[I", true)
  | 2 => ("SandWorkers$Glasses", "task", "[I", true)
  | 3 => ("SandWorkers$Glasses", "above", "[I", true)
  | 4 => ("SandWorkers$Glasses", "turn", "[I", true)
  | 5 => ("SandWorkers$Glasses", "works", "[I", true)
  | 6 => ("SandWorkers$Glasses", "waiting", "[I", true)
  | _ => ("SandWorkers$Glasses", "flips", "[I", true)
def tyX2 : Nat → FieldType := fun k => match k with
  | 0 => .int
  | 1 => .array .int
  | 2 => .array .int
  | 3 => .array .int
  | 4 => .array .int
  | 5 => .array .int
  | 6 => .array .int
  | _ => .array .int
theorem nmX2 : ∀ a, a < 8 → ∀ b, b < 8 → a ≠ b → (TX2 a).2.1 ≠ (TX2 b).2.1 := by decide +kernel
theorem tyX2_ok : ∀ k, k < 8 → parseFieldDescriptor (TX2 k).2.2.1 = some (tyX2 k) := by decide +kernel
abbrev cX2_init : ByteArray := prog_4_method_1_code
def yX2_init : MethodName := ⟨RX2, "<init>", "()V"⟩
abbrev cX2_copyFrom : ByteArray := prog_4_method_2_code
def yX2_copyFrom : MethodName := ⟨RX2, "copyFrom", "(LSandWorkers$Glasses;)V"⟩
abbrev cX2_isOut : ByteArray := prog_4_method_3_code
def yX2_isOut : MethodName := ⟨RX2, "isOut", "(I)Z"⟩
abbrev cX2_start : ByteArray := prog_4_method_4_code
def yX2_start : MethodName := ⟨RX2, "start", "(II)V"⟩
abbrev cX2_flipOne : ByteArray := prog_4_method_5_code
def yX2_flipOne : MethodName := ⟨RX2, "flipOne", "(I)V"⟩
abbrev cX2_numberOn : ByteArray := prog_4_method_6_code
def yX2_numberOn : MethodName := ⟨RX2, "numberOn", "(I)I"⟩
abbrev cX2_aheadOnTask : ByteArray := prog_4_method_7_code
def yX2_aheadOnTask : MethodName := ⟨RX2, "aheadOnTask", "(I)I"⟩
abbrev cX2_atPlace : ByteArray := prog_4_method_8_code
def yX2_atPlace : MethodName := ⟨RX2, "atPlace", "(II)I"⟩
abbrev cX2_nextOut : ByteArray := prog_4_method_9_code
def yX2_nextOut : MethodName := ⟨RX2, "nextOut", "()I"⟩
abbrev cX2_untilNextOut : ByteArray := prog_4_method_10_code
def yX2_untilNextOut : MethodName := ⟨RX2, "untilNextOut", "()I"⟩
abbrev cX2_outOf : ByteArray := prog_4_method_11_code
def yX2_outOf : MethodName := ⟨RX2, "outOf", "(I)I"⟩
abbrev cX2_worksOf : ByteArray := prog_4_method_12_code
def yX2_worksOf : MethodName := ⟨RX2, "worksOf", "(I)I"⟩
abbrev cX2_waitingOf : ByteArray := prog_4_method_13_code
def yX2_waitingOf : MethodName := ⟨RX2, "waitingOf", "(I)I"⟩
abbrev cX2_allWorks : ByteArray := prog_4_method_14_code
def yX2_allWorks : MethodName := ⟨RX2, "allWorks", "()I"⟩
abbrev cX2_allFlips : ByteArray := prog_4_method_15_code
def yX2_allFlips : MethodName := ⟨RX2, "allFlips", "()I"⟩
abbrev cX2_sumOf : ByteArray := prog_4_method_16_code
def yX2_sumOf : MethodName := ⟨RX2, "sumOf", "([II)I"⟩
abbrev cX2_sumOfAll : ByteArray := prog_4_method_17_code
def yX2_sumOfAll : MethodName := ⟨RX2, "sumOfAll", "([I)I"⟩
def RX3 : String := "SandWorkers$History"
def TX3 : u_T := fun k => match k with
  | 0 => ("SandWorkers$History", "count", "I", false)
  | _ => ("SandWorkers$History", "states", "[LSandWorkers$Game;", true)
def tyX3 : Nat → FieldType := fun k => match k with
  | 0 => .int
  | _ => .array (.object "SandWorkers$Game")
theorem nmX3 : ∀ a, a < 2 → ∀ b, b < 2 → a ≠ b → (TX3 a).2.1 ≠ (TX3 b).2.1 := by decide +kernel
theorem tyX3_ok : ∀ k, k < 2 → parseFieldDescriptor (TX3 k).2.2.1 = some (tyX3 k) := by decide +kernel
abbrev cX3_init : ByteArray := prog_5_method_1_code
def yX3_init : MethodName := ⟨RX3, "<init>", "()V"⟩
abbrev cX3_record : ByteArray := prog_5_method_2_code
def yX3_record : MethodName := ⟨RX3, "record", "(LSandWorkers$Game;)V"⟩
abbrev cX3_dropOldest : ByteArray := prog_5_method_3_code
def yX3_dropOldest : MethodName := ⟨RX3, "dropOldest", "()V"⟩
abbrev cX3_restore : ByteArray := prog_5_method_4_code
def yX3_restore : MethodName := ⟨RX3, "restore", "(LSandWorkers$Game;)I"⟩
def RX4 : String := "SandWorkers$Orders"
def TX4 : u_T := fun k => match k with
  | 0 => ("SandWorkers$Orders", "length", "I", false)
  | 1 => ("SandWorkers$Orders", "obeyed", "I", false)
  | 2 => ("SandWorkers$Orders", "position", "I", false)
  | 3 => ("SandWorkers$Orders", "reason", "I", false)
  | 4 => ("SandWorkers$Orders", "cause", "I", false)
  | 5 => ("SandWorkers$Orders", "cursor", "I", false)
  | 6 => ("SandWorkers$Orders", "text", "[I", true)
  | _ => ("SandWorkers$Orders", "numbers", "[I", true)
def tyX4 : Nat → FieldType := fun k => match k with
  | 0 => .int
  | 1 => .int
  | 2 => .int
  | 3 => .int
  | 4 => .int
  | 5 => .int
  | 6 => .array .int
  | _ => .array .int
theorem nmX4 : ∀ a, a < 8 → ∀ b, b < 8 → a ≠ b → (TX4 a).2.1 ≠ (TX4 b).2.1 := by decide +kernel
theorem tyX4_ok : ∀ k, k < 8 → parseFieldDescriptor (TX4 k).2.2.1 = some (tyX4 k) := by decide +kernel
abbrev cX4_init : ByteArray := prog_6_method_1_code
def yX4_init : MethodName := ⟨RX4, "<init>", "()V"⟩
abbrev cX4_append : ByteArray := prog_6_method_2_code
def yX4_append : MethodName := ⟨RX4, "append", "(I)I"⟩
abbrev cX4_clear : ByteArray := prog_6_method_3_code
def yX4_clear : MethodName := ⟨RX4, "clear", "()I"⟩
abbrev cX4_obeyAll : ByteArray := prog_6_method_4_code
def yX4_obeyAll : MethodName := ⟨RX4, "obeyAll", "(LSandWorkers$Game;)Z"⟩
abbrev cX4_readOrder : ByteArray := prog_6_method_5_code
def yX4_readOrder : MethodName := ⟨RX4, "readOrder", "()Z"⟩
abbrev cX4_readNumber : ByteArray := prog_6_method_6_code
def yX4_readNumber : MethodName := ⟨RX4, "readNumber", "(I)Z"⟩
abbrev cX4_readSign : ByteArray := prog_6_method_7_code
def yX4_readSign : MethodName := ⟨RX4, "readSign", "(I)Z"⟩
abbrev cX4_signAt : ByteArray := prog_6_method_8_code
def yX4_signAt : MethodName := ⟨RX4, "signAt", "(I)I"⟩
abbrev cX4_numbersOf : ByteArray := prog_6_method_9_code
def yX4_numbersOf : MethodName := ⟨RX4, "numbersOf", "(I)I"⟩
abbrev cX4_obey : ByteArray := prog_6_method_10_code
def yX4_obey : MethodName := ⟨RX4, "obey", "(LSandWorkers$Game;I)I"⟩
def RX5 : String := "SandWorkers$Players"
def TX5 : u_T := fun k => match k with
  | 0 => ("SandWorkers$Players", "count", "I", false)
  | 1 => ("SandWorkers$Players", "lost", "I", false)
  | 2 => ("SandWorkers$Players", "goods", "[I", true)
  | _ => ("SandWorkers$Players", "points", "[I", true)
def tyX5 : Nat → FieldType := fun k => match k with
  | 0 => .int
  | 1 => .int
  | 2 => .array .int
  | _ => .array .int
theorem nmX5 : ∀ a, a < 4 → ∀ b, b < 4 → a ≠ b → (TX5 a).2.1 ≠ (TX5 b).2.1 := by decide +kernel
theorem tyX5_ok : ∀ k, k < 4 → parseFieldDescriptor (TX5 k).2.2.1 = some (tyX5 k) := by decide +kernel
abbrev cX5_init : ByteArray := prog_7_method_1_code
def yX5_init : MethodName := ⟨RX5, "<init>", "()V"⟩
abbrev cX5_copyFrom : ByteArray := prog_7_method_2_code
def yX5_copyFrom : MethodName := ⟨RX5, "copyFrom", "(LSandWorkers$Players;)V"⟩
abbrev cX5_amountOf : ByteArray := prog_7_method_3_code
def yX5_amountOf : MethodName := ⟨RX5, "amountOf", "(II)I"⟩
abbrev cX5_have : ByteArray := prog_7_method_4_code
def yX5_have : MethodName := ⟨RX5, "have", "(II)Z"⟩
abbrev cX5_allWhoHave : ByteArray := prog_7_method_5_code
def yX5_allWhoHave : MethodName := ⟨RX5, "allWhoHave", "(I)I"⟩
abbrev cX5_pay : ByteArray := prog_7_method_6_code
def yX5_pay : MethodName := ⟨RX5, "pay", "(II)V"⟩
abbrev cX5_gain : ByteArray := prog_7_method_7_code
def yX5_gain : MethodName := ⟨RX5, "gain", "(II)V"⟩
abbrev cX5_allGoodsOf : ByteArray := prog_7_method_8_code
def yX5_allGoodsOf : MethodName := ⟨RX5, "allGoodsOf", "(I)I"⟩
abbrev cX5_isAheadOf : ByteArray := prog_7_method_9_code
def yX5_isAheadOf : MethodName := ⟨RX5, "isAheadOf", "(II)Z"⟩
abbrev cX5_ahead : ByteArray := prog_7_method_10_code
def yX5_ahead : MethodName := ⟨RX5, "ahead", "()I"⟩
def RX6 : String := "SandWorkers$Tasks"
def TX6 : u_T := fun k => match k with
  | 0 => ("SandWorkers$Tasks", "count", "I", false)
  | 1 => ("SandWorkers$Tasks", "places", "[I", true)
  | 2 => ("SandWorkers$Tasks", "cost", "[I", true)
  | 3 => ("SandWorkers$Tasks", "gain", "[I", true)
  | 4 => ("SandWorkers$Tasks", "effect", "[I", true)
  | _ => ("SandWorkers$Tasks", "works", "[I", true)
def tyX6 : Nat → FieldType := fun k => match k with
  | 0 => .int
  | 1 => .array .int
  | 2 => .array .int
  | 3 => .array .int
  | 4 => .array .int
  | _ => .array .int
theorem nmX6 : ∀ a, a < 6 → ∀ b, b < 6 → a ≠ b → (TX6 a).2.1 ≠ (TX6 b).2.1 := by decide +kernel
theorem tyX6_ok : ∀ k, k < 6 → parseFieldDescriptor (TX6 k).2.2.1 = some (tyX6 k) := by decide +kernel
abbrev cX6_init : ByteArray := prog_8_method_1_code
def yX6_init : MethodName := ⟨RX6, "<init>", "()V"⟩
abbrev cX6_copyFrom : ByteArray := prog_8_method_2_code
def yX6_copyFrom : MethodName := ⟨RX6, "copyFrom", "(LSandWorkers$Tasks;)V"⟩
abbrev cX6_differenceOf : ByteArray := prog_8_method_3_code
def yX6_differenceOf : MethodName := ⟨RX6, "differenceOf", "(I)I"⟩
def RX7 : String := "SandWorkers"
def TX7 : u_T := fun k => match k with
  | 0 => ("SandWorkers", "game", "LSandWorkers$Game;", true)
  | 1 => ("SandWorkers", "trial", "LSandWorkers$Game;", true)
  | 2 => ("SandWorkers", "history", "LSandWorkers$History;", true)
  | _ => ("SandWorkers", "orders", "LSandWorkers$Orders;", true)
def tyX7 : Nat → FieldType := fun k => match k with
  | 0 => .object "SandWorkers$Game"
  | 1 => .object "SandWorkers$Game"
  | 2 => .object "SandWorkers$History"
  | _ => .object "SandWorkers$Orders"
theorem nmX7 : ∀ a, a < 4 → ∀ b, b < 4 → a ≠ b → (TX7 a).2.1 ≠ (TX7 b).2.1 := by decide +kernel
theorem tyX7_ok : ∀ k, k < 4 → parseFieldDescriptor (TX7 k).2.2.1 = some (tyX7 k) := by decide +kernel
abbrev cX7_init : ByteArray := prog_1_method_1_code
def yX7_init : MethodName := ⟨RX7, "<init>", "()V"⟩
abbrev cX7_player : ByteArray := prog_1_method_2_code
def yX7_player : MethodName := ⟨RX7, "player", "()I"⟩
abbrev cX7_size : ByteArray := prog_1_method_3_code
def yX7_size : MethodName := ⟨RX7, "size", "(III)I"⟩
abbrev cX7_task : ByteArray := prog_1_method_4_code
def yX7_task : MethodName := ⟨RX7, "task", "(IIII)I"⟩
abbrev cX7_contract : ByteArray := prog_1_method_5_code
def yX7_contract : MethodName := ⟨RX7, "contract", "(II)I"⟩
abbrev cX7_put : ByteArray := prog_1_method_6_code
def yX7_put : MethodName := ⟨RX7, "put", "(III)I"⟩
abbrev cX7_home : ByteArray := prog_1_method_7_code
def yX7_home : MethodName := ⟨RX7, "home", "(II)I"⟩
abbrev cX7_flip : ByteArray := prog_1_method_8_code
def yX7_flip : MethodName := ⟨RX7, "flip", "(II)I"⟩
abbrev cX7_buy : ByteArray := prog_1_method_9_code
def yX7_buy : MethodName := ⟨RX7, "buy", "(II)I"⟩
abbrev cX7_pass : ByteArray := prog_1_method_10_code
def yX7_pass : MethodName := ⟨RX7, "pass", "(I)I"⟩
abbrev cX7_playerOf : ByteArray := prog_1_method_11_code
def yX7_playerOf : MethodName := ⟨RX7, "playerOf", "(II)I"⟩
abbrev cX7_workerOf : ByteArray := prog_1_method_12_code
def yX7_workerOf : MethodName := ⟨RX7, "workerOf", "(III)I"⟩
abbrev cX7_taskOf : ByteArray := prog_1_method_13_code
def yX7_taskOf : MethodName := ⟨RX7, "taskOf", "(II)I"⟩
abbrev cX7_on : ByteArray := prog_1_method_14_code
def yX7_on : MethodName := ⟨RX7, "on", "(II)I"⟩
abbrev cX7_contractOf : ByteArray := prog_1_method_15_code
def yX7_contractOf : MethodName := ⟨RX7, "contractOf", "(II)I"⟩
abbrev cX7_next : ByteArray := prog_1_method_16_code
def yX7_next : MethodName := ⟨RX7, "next", "(I)I"⟩
abbrev cX7_would : ByteArray := prog_1_method_17_code
def yX7_would : MethodName := ⟨RX7, "would", "(III)I"⟩
abbrev cX7_best : ByteArray := prog_1_method_18_code
def yX7_best : MethodName := ⟨RX7, "best", "(III)I"⟩
abbrev cX7_earns : ByteArray := prog_1_method_19_code
def yX7_earns : MethodName := ⟨RX7, "earns", "(III)I"⟩
abbrev cX7_busy : ByteArray := prog_1_method_20_code
def yX7_busy : MethodName := ⟨RX7, "busy", "(II)I"⟩
abbrev cX7_count : ByteArray := prog_1_method_21_code
def yX7_count : MethodName := ⟨RX7, "count", "(I)I"⟩
abbrev cX7_undo : ByteArray := prog_1_method_22_code
def yX7_undo : MethodName := ⟨RX7, "undo", "()I"⟩
abbrev cX7_type : ByteArray := prog_1_method_23_code
def yX7_type : MethodName := ⟨RX7, "type", "(I)I"⟩
abbrev cX7_clearText : ByteArray := prog_1_method_24_code
def yX7_clearText : MethodName := ⟨RX7, "clearText", "()I"⟩
abbrev cX7_fault : ByteArray := prog_1_method_25_code
def yX7_fault : MethodName := ⟨RX7, "fault", "(I)I"⟩
abbrev cX7_play : ByteArray := prog_1_method_26_code
def yX7_play : MethodName := ⟨RX7, "play", "()I"⟩
abbrev cX7_startTrial : ByteArray := prog_1_method_27_code
def yX7_startTrial : MethodName := ⟨RX7, "startTrial", "()V"⟩
abbrev cX7_keepTrial : ByteArray := prog_1_method_28_code
def yX7_keepTrial : MethodName := ⟨RX7, "keepTrial", "(I)I"⟩
abbrev cX7_within : ByteArray := prog_1_method_29_code
def yX7_within : MethodName := ⟨RX7, "within", "(III)Z"⟩
abbrev cX7_amountIn : ByteArray := prog_1_method_30_code
def yX7_amountIn : MethodName := ⟨RX7, "amountIn", "(II)I"⟩
abbrev cX7_allAmountsIn : ByteArray := prog_1_method_31_code
def yX7_allAmountsIn : MethodName := ⟨RX7, "allAmountsIn", "(I)I"⟩
abbrev cX7_glassOf : ByteArray := prog_1_method_32_code
def yX7_glassOf : MethodName := ⟨RX7, "glassOf", "(II)I"⟩
abbrev cX7_playerWith : ByteArray := prog_1_method_33_code
def yX7_playerWith : MethodName := ⟨RX7, "playerWith", "(I)I"⟩
abbrev cX7_toldOf : ByteArray := prog_1_method_34_code
def yX7_toldOf : MethodName := ⟨RX7, "toldOf", "(I)I"⟩
abbrev cX7_bitsOfShare : ByteArray := prog_1_method_35_code
def yX7_bitsOfShare : MethodName := ⟨RX7, "bitsOfShare", "(F)I"⟩
abbrev cX7_copyRow : ByteArray := prog_1_method_36_code
def yX7_copyRow : MethodName := ⟨RX7, "copyRow", "([I[I)V"⟩
def RX8 : String := "SandWorkersModel"
def TX8 : u_T := fun k => match k with
  | 0 => ("SandWorkersModel", "s", "[I", true)
  | 1 => ("SandWorkersModel", "past", "[I", true)
  | 2 => ("SandWorkersModel", "held", "[I", true)
  | 3 => ("SandWorkersModel", "tried", "[I", true)
  | 4 => ("SandWorkersModel", "pasts", "I", false)
  | 5 => ("SandWorkersModel", "runs", "Z", false)
  | 6 => ("SandWorkersModel", "text", "[I", true)
  | 7 => ("SandWorkersModel", "typed", "I", false)
  | 8 => ("SandWorkersModel", "ends", "[I", true)
  | 9 => ("SandWorkersModel", "ended", "I", false)
  | 10 => ("SandWorkersModel", "spot", "I", false)
  | 11 => ("SandWorkersModel", "from", "I", false)
  | 12 => ("SandWorkersModel", "reason", "I", false)
  | 13 => ("SandWorkersModel", "cause", "I", false)
  | 14 => ("SandWorkersModel", "orders", "I", false)
  | 15 => ("SandWorkersModel", "order", "I", false)
  | _ => ("SandWorkersModel", "numbers", "[I", true)
def tyX8 : Nat → FieldType := fun k => match k with
  | 0 => .array .int
  | 1 => .array .int
  | 2 => .array .int
  | 3 => .array .int
  | 4 => .int
  | 5 => .boolean
  | 6 => .array .int
  | 7 => .int
  | 8 => .array .int
  | 9 => .int
  | 10 => .int
  | 11 => .int
  | 12 => .int
  | 13 => .int
  | 14 => .int
  | 15 => .int
  | _ => .array .int
theorem nmX8 : ∀ a, a < 17 → ∀ b, b < 17 → a ≠ b → (TX8 a).2.1 ≠ (TX8 b).2.1 := by decide +kernel
theorem tyX8_ok : ∀ k, k < 17 → parseFieldDescriptor (TX8 k).2.2.1 = some (tyX8 k) := by decide +kernel
abbrev cX8_init : ByteArray := prog_10_method_1_code
def yX8_init : MethodName := ⟨RX8, "<init>", "()V"⟩
abbrev cX8_in : ByteArray := prog_10_method_3_code
def yX8_in : MethodName := ⟨RX8, "in", "(III)Z"⟩
abbrev cX8_copies : ByteArray := prog_10_method_4_code
def yX8_copies : MethodName := ⟨RX8, "copies", "([I[I)V"⟩
abbrev cX8_changes : ByteArray := prog_10_method_5_code
def yX8_changes : MethodName := ⟨RX8, "changes", "()V"⟩
abbrev cX8_isPlayer : ByteArray := prog_10_method_6_code
def yX8_isPlayer : MethodName := ⟨RX8, "isPlayer", "(I)Z"⟩
abbrev cX8_isWorker : ByteArray := prog_10_method_7_code
def yX8_isWorker : MethodName := ⟨RX8, "isWorker", "(II)Z"⟩
abbrev cX8_isTask : ByteArray := prog_10_method_8_code
def yX8_isTask : MethodName := ⟨RX8, "isTask", "(I)Z"⟩
abbrev cX8_isContract : ByteArray := prog_10_method_9_code
def yX8_isContract : MethodName := ⟨RX8, "isContract", "(I)Z"⟩
abbrev cX8_of : ByteArray := prog_10_method_10_code
def yX8_of : MethodName := ⟨RX8, "of", "(II)I"⟩
abbrev cX8_ofTask : ByteArray := prog_10_method_11_code
def yX8_ofTask : MethodName := ⟨RX8, "ofTask", "(II)I"⟩
abbrev cX8_workers : ByteArray := prog_10_method_12_code
def yX8_workers : MethodName := ⟨RX8, "workers", "()I"⟩
abbrev cX8_amount : ByteArray := prog_10_method_13_code
def yX8_amount : MethodName := ⟨RX8, "amount", "(II)I"⟩
abbrev cX8_has : ByteArray := prog_10_method_14_code
def yX8_has : MethodName := ⟨RX8, "has", "(II)Z"⟩
abbrev cX8_pays : ByteArray := prog_10_method_15_code
def yX8_pays : MethodName := ⟨RX8, "pays", "(II)V"⟩
abbrev cX8_player : ByteArray := prog_10_method_16_code
def yX8_player : MethodName := ⟨RX8, "player", "()I"⟩
abbrev cX8_size : ByteArray := prog_10_method_17_code
def yX8_size : MethodName := ⟨RX8, "size", "(III)I"⟩
abbrev cX8_task : ByteArray := prog_10_method_18_code
def yX8_task : MethodName := ⟨RX8, "task", "(IIII)I"⟩
abbrev cX8_contract : ByteArray := prog_10_method_19_code
def yX8_contract : MethodName := ⟨RX8, "contract", "(II)I"⟩
abbrev cX8_left : ByteArray := prog_10_method_20_code
def yX8_left : MethodName := ⟨RX8, "left", "(I)I"⟩
abbrev cX8_canPut : ByteArray := prog_10_method_21_code
def yX8_canPut : MethodName := ⟨RX8, "canPut", "(II)Z"⟩
abbrev cX8_puts : ByteArray := prog_10_method_22_code
def yX8_puts : MethodName := ⟨RX8, "puts", "(II)V"⟩
abbrev cX8_put : ByteArray := prog_10_method_23_code
def yX8_put : MethodName := ⟨RX8, "put", "(III)I"⟩
abbrev cX8_home : ByteArray := prog_10_method_24_code
def yX8_home : MethodName := ⟨RX8, "home", "(II)I"⟩
abbrev cX8_flips : ByteArray := prog_10_method_25_code
def yX8_flips : MethodName := ⟨RX8, "flips", "(I)V"⟩
abbrev cX8_gains : ByteArray := prog_10_method_26_code
def yX8_gains : MethodName := ⟨RX8, "gains", "(II)V"⟩
abbrev cX8_works : ByteArray := prog_10_method_27_code
def yX8_works : MethodName := ⟨RX8, "works", "()V"⟩
abbrev cX8_flip : ByteArray := prog_10_method_28_code
def yX8_flip : MethodName := ⟨RX8, "flip", "(II)I"⟩
abbrev cX8_buy : ByteArray := prog_10_method_29_code
def yX8_buy : MethodName := ⟨RX8, "buy", "(II)I"⟩
abbrev cX8_goes : ByteArray := prog_10_method_30_code
def yX8_goes : MethodName := ⟨RX8, "goes", "()V"⟩
abbrev cX8_pass : ByteArray := prog_10_method_31_code
def yX8_pass : MethodName := ⟨RX8, "pass", "(I)I"⟩
abbrev cX8_outs : ByteArray := prog_10_method_32_code
def yX8_outs : MethodName := ⟨RX8, "outs", "(I)I"⟩
abbrev cX8_waited : ByteArray := prog_10_method_33_code
def yX8_waited : MethodName := ⟨RX8, "waited", "(I)I"⟩
abbrev cX8_nextOut : ByteArray := prog_10_method_34_code
def yX8_nextOut : MethodName := ⟨RX8, "nextOut", "(I)I"⟩
abbrev cX8_playerOf : ByteArray := prog_10_method_35_code
def yX8_playerOf : MethodName := ⟨RX8, "playerOf", "(II)I"⟩
abbrev cX8_workerOf : ByteArray := prog_10_method_36_code
def yX8_workerOf : MethodName := ⟨RX8, "workerOf", "(III)I"⟩
abbrev cX8_taskOf : ByteArray := prog_10_method_37_code
def yX8_taskOf : MethodName := ⟨RX8, "taskOf", "(II)I"⟩
abbrev cX8_told : ByteArray := prog_10_method_38_code
def yX8_told : MethodName := ⟨RX8, "told", "(I)I"⟩
abbrev cX8_on : ByteArray := prog_10_method_39_code
def yX8_on : MethodName := ⟨RX8, "on", "(II)I"⟩
abbrev cX8_contractOf : ByteArray := prog_10_method_40_code
def yX8_contractOf : MethodName := ⟨RX8, "contractOf", "(II)I"⟩
abbrev cX8_anySand : ByteArray := prog_10_method_41_code
def yX8_anySand : MethodName := ⟨RX8, "anySand", "()Z"⟩
abbrev cX8_next : ByteArray := prog_10_method_42_code
def yX8_next : MethodName := ⟨RX8, "next", "(I)I"⟩
abbrev cX8_would : ByteArray := prog_10_method_43_code
def yX8_would : MethodName := ⟨RX8, "would", "(III)I"⟩
abbrev cX8_sum : ByteArray := prog_10_method_44_code
def yX8_sum : MethodName := ⟨RX8, "sum", "(I)I"⟩
abbrev cX8_best : ByteArray := prog_10_method_45_code
def yX8_best : MethodName := ⟨RX8, "best", "(III)I"⟩
abbrev cX8_earns : ByteArray := prog_10_method_46_code
def yX8_earns : MethodName := ⟨RX8, "earns", "(III)I"⟩
abbrev cX8_busy : ByteArray := prog_10_method_47_code
def yX8_busy : MethodName := ⟨RX8, "busy", "(II)I"⟩
abbrev cX8_goods : ByteArray := prog_10_method_48_code
def yX8_goods : MethodName := ⟨RX8, "goods", "(I)I"⟩
abbrev cX8_ahead : ByteArray := prog_10_method_49_code
def yX8_ahead : MethodName := ⟨RX8, "ahead", "()I"⟩
abbrev cX8_count : ByteArray := prog_10_method_50_code
def yX8_count : MethodName := ⟨RX8, "count", "(I)I"⟩
abbrev cX8_undo : ByteArray := prog_10_method_51_code
def yX8_undo : MethodName := ⟨RX8, "undo", "()I"⟩
abbrev cX8_type : ByteArray := prog_10_method_52_code
def yX8_type : MethodName := ⟨RX8, "type", "(I)I"⟩
abbrev cX8_clearText : ByteArray := prog_10_method_53_code
def yX8_clearText : MethodName := ⟨RX8, "clearText", "()I"⟩
abbrev cX8_isAt : ByteArray := prog_10_method_54_code
def yX8_isAt : MethodName := ⟨RX8, "isAt", "(II)Z"⟩
abbrev cX8_sign : ByteArray := prog_10_method_55_code
def yX8_sign : MethodName := ⟨RX8, "sign", "(I)Z"⟩
abbrev cX8_number : ByteArray := prog_10_method_56_code
def yX8_number : MethodName := ⟨RX8, "number", "(I)Z"⟩
abbrev cX8_numbersOf : ByteArray := prog_10_method_57_code
def yX8_numbersOf : MethodName := ⟨RX8, "numbersOf", "(I)I"⟩
abbrev cX8_reads : ByteArray := prog_10_method_58_code
def yX8_reads : MethodName := ⟨RX8, "reads", "()Z"⟩
abbrev cX8_calls : ByteArray := prog_10_method_59_code
def yX8_calls : MethodName := ⟨RX8, "calls", "()I"⟩
abbrev cX8_plays : ByteArray := prog_10_method_60_code
def yX8_plays : MethodName := ⟨RX8, "plays", "()Z"⟩
abbrev cX8_fault : ByteArray := prog_10_method_61_code
def yX8_fault : MethodName := ⟨RX8, "fault", "(I)I"⟩
abbrev cX8_play : ByteArray := prog_10_method_62_code
def yX8_play : MethodName := ⟨RX8, "play", "()I"⟩
def RJxf58ca : String := "java/lang/Float"
def TJxf58ca : u_T := fun k => match k with
  | _ => ("", "", "", false)
def tyJxf58ca : Nat → FieldType := fun k => match k with
  | _ => .int
abbrev cJxf58ca_isNaN_12338 : ByteArray := prog_11_method_6_code
def yJxf58ca_isNaN_12338 : MethodName := ⟨RJxf58ca, "isNaN", "(F)Z"⟩
abbrev cJxf58ca_floatToIntBits_5c35a : ByteArray := prog_11_method_24_code
def yJxf58ca_floatToIntBits_5c35a : MethodName := ⟨RJxf58ca, "floatToIntBits", "(F)I"⟩
def RJ9 : String := "java/lang/Math"
def TJ9 : u_T := fun k => match k with
  | _ => ("", "", "", false)
def tyJ9 : Nat → FieldType := fun k => match k with
  | _ => .int
abbrev cJ9_max_7cf53 : ByteArray := prog_12_method_65_code
def yJ9_max_7cf53 : MethodName := ⟨RJ9, "max", "(II)I"⟩
abbrev cJ9_min_7cf53 : ByteArray := prog_12_method_69_code
def yJ9_min_7cf53 : MethodName := ⟨RJ9, "min", "(II)I"⟩
def RJ10 : String := "java/lang/System"
def TJ10 : u_T := fun k => match k with
  | _ => ("", "", "", false)
def tyJ10 : Nat → FieldType := fun k => match k with
  | _ => .int
def RL : String := "SandWorkersLaw"
abbrev cL_law : ByteArray := code
abbrev vwCl : List vw_C := [(RX0, TX0, 3), (RX1, TX1, 7), (RX2, TX2, 8), (RX3, TX3, 2), (RX4, TX4, 8), (RX5, TX5, 4), (RX6, TX6, 6), (RX7, TX7, 4), (RX8, TX8, 17)]
