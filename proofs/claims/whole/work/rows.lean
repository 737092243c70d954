section
-- ===== PART A: goes FIRST, ahead of the names: the tables' words, and 'selects' of the private methods out of them =====
/-- a private method of a class that the tables say can be made, by its rows of tables_1 -/
def lw_okq (q : MethodName × Nat) : Prop := (q.1.cls ≠ "java/lang/invoke/MethodHandle" ∧ q.1.cls ≠ "java/lang/invoke/VarHandle") ∧ Cond.instantiable q.1.cls q.2 ∈ tables_1 ∧ Cond.privateMethod q.1 ∈ tables_1 ∧ Cond.instanceMethod q.1 ∈ tables_1
theorem lw_p0 : lw_okq (⟨"SandWorkers", "startTrial", "()V"⟩, 4) := ⟨⟨by decide +kernel, by decide +kernel⟩, List.mem_of_getElem? (i := 14) (by decide +kernel), List.mem_of_getElem? (i := 251) (by decide +kernel), List.mem_of_getElem? (i := 252) (by decide +kernel)⟩
theorem lw_p1 : lw_okq (⟨"SandWorkers", "keepTrial", "(I)I"⟩, 4) := ⟨⟨by decide +kernel, by decide +kernel⟩, List.mem_of_getElem? (i := 14) (by decide +kernel), List.mem_of_getElem? (i := 292) (by decide +kernel), List.mem_of_getElem? (i := 293) (by decide +kernel)⟩
theorem lw_p2 : lw_okq (⟨"SandWorkers$History", "dropOldest", "()V"⟩, 2) := ⟨⟨by decide +kernel, by decide +kernel⟩, List.mem_of_getElem? (i := 181) (by decide +kernel), List.mem_of_getElem? (i := 300) (by decide +kernel), List.mem_of_getElem? (i := 301) (by decide +kernel)⟩
theorem lw_p3 : lw_okq (⟨"SandWorkers$Game", "addIfDue", "(I)V"⟩, 7) := ⟨⟨by decide +kernel, by decide +kernel⟩, List.mem_of_getElem? (i := 22) (by decide +kernel), List.mem_of_getElem? (i := 415) (by decide +kernel), List.mem_of_getElem? (i := 416) (by decide +kernel)⟩
theorem lw_p4 : lw_okq (⟨"SandWorkers$Game", "finishDue", "()I"⟩, 7) := ⟨⟨by decide +kernel, by decide +kernel⟩, List.mem_of_getElem? (i := 22) (by decide +kernel), List.mem_of_getElem? (i := 419) (by decide +kernel), List.mem_of_getElem? (i := 420) (by decide +kernel)⟩
theorem lw_p5 : lw_okq (⟨"SandWorkers$Game", "takeEffect", "(II)V"⟩, 7) := ⟨⟨by decide +kernel, by decide +kernel⟩, List.mem_of_getElem? (i := 22) (by decide +kernel), List.mem_of_getElem? (i := 428) (by decide +kernel), List.mem_of_getElem? (i := 429) (by decide +kernel)⟩
theorem lw_p6 : lw_okq (⟨"SandWorkers$Glasses", "aheadOnTask", "(I)I"⟩, 8) := ⟨⟨by decide +kernel, by decide +kernel⟩, List.mem_of_getElem? (i := 53) (by decide +kernel), List.mem_of_getElem? (i := 526) (by decide +kernel), List.mem_of_getElem? (i := 527) (by decide +kernel)⟩
theorem lw_p7 : lw_okq (⟨"SandWorkers$Orders", "readOrder", "()Z"⟩, 8) := ⟨⟨by decide +kernel, by decide +kernel⟩, List.mem_of_getElem? (i := 198) (by decide +kernel), List.mem_of_getElem? (i := 653) (by decide +kernel), List.mem_of_getElem? (i := 654) (by decide +kernel)⟩
theorem lw_p8 : lw_okq (⟨"SandWorkers$Orders", "signAt", "(I)I"⟩, 8) := ⟨⟨by decide +kernel, by decide +kernel⟩, List.mem_of_getElem? (i := 198) (by decide +kernel), List.mem_of_getElem? (i := 657) (by decide +kernel), List.mem_of_getElem? (i := 658) (by decide +kernel)⟩
theorem lw_p9 : lw_okq (⟨"SandWorkers$Orders", "readNumber", "(I)Z"⟩, 8) := ⟨⟨by decide +kernel, by decide +kernel⟩, List.mem_of_getElem? (i := 198) (by decide +kernel), List.mem_of_getElem? (i := 665) (by decide +kernel), List.mem_of_getElem? (i := 666) (by decide +kernel)⟩
theorem lw_p10 : lw_okq (⟨"SandWorkers$Orders", "readSign", "(I)Z"⟩, 8) := ⟨⟨by decide +kernel, by decide +kernel⟩, List.mem_of_getElem? (i := 198) (by decide +kernel), List.mem_of_getElem? (i := 669) (by decide +kernel), List.mem_of_getElem? (i := 670) (by decide +kernel)⟩
theorem lw_p11 : lw_okq (⟨"SandWorkers$Orders", "obey", "(LSandWorkers$Game;I)I"⟩, 8) := ⟨⟨by decide +kernel, by decide +kernel⟩, List.mem_of_getElem? (i := 198) (by decide +kernel), List.mem_of_getElem? (i := 673) (by decide +kernel), List.mem_of_getElem? (i := 674) (by decide +kernel)⟩
theorem lw_p12 : lw_okq (⟨"SandWorkersModel", "changes", "()V"⟩, 17) := ⟨⟨by decide +kernel, by decide +kernel⟩, List.mem_of_getElem? (i := 687) (by decide +kernel), List.mem_of_getElem? (i := 750) (by decide +kernel), List.mem_of_getElem? (i := 751) (by decide +kernel)⟩
theorem lw_p13 : lw_okq (⟨"SandWorkersModel", "isWorker", "(II)Z"⟩, 17) := ⟨⟨by decide +kernel, by decide +kernel⟩, List.mem_of_getElem? (i := 687) (by decide +kernel), List.mem_of_getElem? (i := 758) (by decide +kernel), List.mem_of_getElem? (i := 759) (by decide +kernel)⟩
theorem lw_p14 : lw_okq (⟨"SandWorkersModel", "isPlayer", "(I)Z"⟩, 17) := ⟨⟨by decide +kernel, by decide +kernel⟩, List.mem_of_getElem? (i := 687) (by decide +kernel), List.mem_of_getElem? (i := 762) (by decide +kernel), List.mem_of_getElem? (i := 763) (by decide +kernel)⟩
theorem lw_p15 : lw_okq (⟨"SandWorkersModel", "of", "(II)I"⟩, 17) := ⟨⟨by decide +kernel, by decide +kernel⟩, List.mem_of_getElem? (i := 687) (by decide +kernel), List.mem_of_getElem? (i := 770) (by decide +kernel), List.mem_of_getElem? (i := 771) (by decide +kernel)⟩
def lw_privs_1 : List (MethodName × Nat) := [(⟨"SandWorkers", "startTrial", "()V"⟩, 4), (⟨"SandWorkers", "keepTrial", "(I)I"⟩, 4), (⟨"SandWorkers$History", "dropOldest", "()V"⟩, 2), (⟨"SandWorkers$Game", "addIfDue", "(I)V"⟩, 7), (⟨"SandWorkers$Game", "finishDue", "()I"⟩, 7), (⟨"SandWorkers$Game", "takeEffect", "(II)V"⟩, 7), (⟨"SandWorkers$Glasses", "aheadOnTask", "(I)I"⟩, 8), (⟨"SandWorkers$Orders", "readOrder", "()Z"⟩, 8), (⟨"SandWorkers$Orders", "signAt", "(I)I"⟩, 8), (⟨"SandWorkers$Orders", "readNumber", "(I)Z"⟩, 8), (⟨"SandWorkers$Orders", "readSign", "(I)Z"⟩, 8), (⟨"SandWorkers$Orders", "obey", "(LSandWorkers$Game;I)I"⟩, 8), (⟨"SandWorkersModel", "changes", "()V"⟩, 17), (⟨"SandWorkersModel", "isWorker", "(II)Z"⟩, 17), (⟨"SandWorkersModel", "isPlayer", "(I)Z"⟩, 17), (⟨"SandWorkersModel", "of", "(II)I"⟩, 17)]
theorem lw_r1 : ∀ q ∈ lw_privs_1, lw_okq q := List.forall_mem_cons.mpr ⟨lw_p0, List.forall_mem_cons.mpr ⟨lw_p1, List.forall_mem_cons.mpr ⟨lw_p2, List.forall_mem_cons.mpr ⟨lw_p3, List.forall_mem_cons.mpr ⟨lw_p4, List.forall_mem_cons.mpr ⟨lw_p5, List.forall_mem_cons.mpr ⟨lw_p6, List.forall_mem_cons.mpr ⟨lw_p7, List.forall_mem_cons.mpr ⟨lw_p8, List.forall_mem_cons.mpr ⟨lw_p9, List.forall_mem_cons.mpr ⟨lw_p10, List.forall_mem_cons.mpr ⟨lw_p11, List.forall_mem_cons.mpr ⟨lw_p12, List.forall_mem_cons.mpr ⟨lw_p13, List.forall_mem_cons.mpr ⟨lw_p14, List.forall_mem_cons.mpr ⟨lw_p15, fun _ h => absurd h List.not_mem_nil⟩⟩⟩⟩⟩⟩⟩⟩⟩⟩⟩⟩⟩⟩⟩⟩
theorem lw_p16 : lw_okq (⟨"SandWorkersModel", "isTask", "(I)Z"⟩, 17) := ⟨⟨by decide +kernel, by decide +kernel⟩, List.mem_of_getElem? (i := 687) (by decide +kernel), List.mem_of_getElem? (i := 787) (by decide +kernel), List.mem_of_getElem? (i := 788) (by decide +kernel)⟩
theorem lw_p17 : lw_okq (⟨"SandWorkersModel", "canPut", "(II)Z"⟩, 17) := ⟨⟨by decide +kernel, by decide +kernel⟩, List.mem_of_getElem? (i := 687) (by decide +kernel), List.mem_of_getElem? (i := 791) (by decide +kernel), List.mem_of_getElem? (i := 792) (by decide +kernel)⟩
theorem lw_p18 : lw_okq (⟨"SandWorkersModel", "left", "(I)I"⟩, 17) := ⟨⟨by decide +kernel, by decide +kernel⟩, List.mem_of_getElem? (i := 687) (by decide +kernel), List.mem_of_getElem? (i := 795) (by decide +kernel), List.mem_of_getElem? (i := 796) (by decide +kernel)⟩
theorem lw_p19 : lw_okq (⟨"SandWorkersModel", "ofTask", "(II)I"⟩, 17) := ⟨⟨by decide +kernel, by decide +kernel⟩, List.mem_of_getElem? (i := 687) (by decide +kernel), List.mem_of_getElem? (i := 799) (by decide +kernel), List.mem_of_getElem? (i := 800) (by decide +kernel)⟩
theorem lw_p20 : lw_okq (⟨"SandWorkersModel", "workers", "()I"⟩, 17) := ⟨⟨by decide +kernel, by decide +kernel⟩, List.mem_of_getElem? (i := 687) (by decide +kernel), List.mem_of_getElem? (i := 803) (by decide +kernel), List.mem_of_getElem? (i := 804) (by decide +kernel)⟩
theorem lw_p21 : lw_okq (⟨"SandWorkersModel", "has", "(II)Z"⟩, 17) := ⟨⟨by decide +kernel, by decide +kernel⟩, List.mem_of_getElem? (i := 687) (by decide +kernel), List.mem_of_getElem? (i := 807) (by decide +kernel), List.mem_of_getElem? (i := 808) (by decide +kernel)⟩
theorem lw_p22 : lw_okq (⟨"SandWorkersModel", "puts", "(II)V"⟩, 17) := ⟨⟨by decide +kernel, by decide +kernel⟩, List.mem_of_getElem? (i := 687) (by decide +kernel), List.mem_of_getElem? (i := 814) (by decide +kernel), List.mem_of_getElem? (i := 815) (by decide +kernel)⟩
theorem lw_p23 : lw_okq (⟨"SandWorkersModel", "pays", "(II)V"⟩, 17) := ⟨⟨by decide +kernel, by decide +kernel⟩, List.mem_of_getElem? (i := 687) (by decide +kernel), List.mem_of_getElem? (i := 818) (by decide +kernel), List.mem_of_getElem? (i := 819) (by decide +kernel)⟩
theorem lw_p24 : lw_okq (⟨"SandWorkersModel", "flips", "(I)V"⟩, 17) := ⟨⟨by decide +kernel, by decide +kernel⟩, List.mem_of_getElem? (i := 687) (by decide +kernel), List.mem_of_getElem? (i := 830) (by decide +kernel), List.mem_of_getElem? (i := 831) (by decide +kernel)⟩
theorem lw_p25 : lw_okq (⟨"SandWorkersModel", "works", "()V"⟩, 17) := ⟨⟨by decide +kernel, by decide +kernel⟩, List.mem_of_getElem? (i := 687) (by decide +kernel), List.mem_of_getElem? (i := 834) (by decide +kernel), List.mem_of_getElem? (i := 835) (by decide +kernel)⟩
theorem lw_p26 : lw_okq (⟨"SandWorkersModel", "gains", "(II)V"⟩, 17) := ⟨⟨by decide +kernel, by decide +kernel⟩, List.mem_of_getElem? (i := 687) (by decide +kernel), List.mem_of_getElem? (i := 838) (by decide +kernel), List.mem_of_getElem? (i := 839) (by decide +kernel)⟩
theorem lw_p27 : lw_okq (⟨"SandWorkersModel", "isContract", "(I)Z"⟩, 17) := ⟨⟨by decide +kernel, by decide +kernel⟩, List.mem_of_getElem? (i := 687) (by decide +kernel), List.mem_of_getElem? (i := 846) (by decide +kernel), List.mem_of_getElem? (i := 847) (by decide +kernel)⟩
theorem lw_p28 : lw_okq (⟨"SandWorkersModel", "goes", "()V"⟩, 17) := ⟨⟨by decide +kernel, by decide +kernel⟩, List.mem_of_getElem? (i := 687) (by decide +kernel), List.mem_of_getElem? (i := 854) (by decide +kernel), List.mem_of_getElem? (i := 855) (by decide +kernel)⟩
theorem lw_p29 : lw_okq (⟨"SandWorkersModel", "outs", "(I)I"⟩, 17) := ⟨⟨by decide +kernel, by decide +kernel⟩, List.mem_of_getElem? (i := 687) (by decide +kernel), List.mem_of_getElem? (i := 862) (by decide +kernel), List.mem_of_getElem? (i := 863) (by decide +kernel)⟩
theorem lw_p30 : lw_okq (⟨"SandWorkersModel", "waited", "(I)I"⟩, 17) := ⟨⟨by decide +kernel, by decide +kernel⟩, List.mem_of_getElem? (i := 687) (by decide +kernel), List.mem_of_getElem? (i := 866) (by decide +kernel), List.mem_of_getElem? (i := 867) (by decide +kernel)⟩
theorem lw_p31 : lw_okq (⟨"SandWorkersModel", "nextOut", "(I)I"⟩, 17) := ⟨⟨by decide +kernel, by decide +kernel⟩, List.mem_of_getElem? (i := 687) (by decide +kernel), List.mem_of_getElem? (i := 870) (by decide +kernel), List.mem_of_getElem? (i := 871) (by decide +kernel)⟩
def lw_privs_2 : List (MethodName × Nat) := [(⟨"SandWorkersModel", "isTask", "(I)Z"⟩, 17), (⟨"SandWorkersModel", "canPut", "(II)Z"⟩, 17), (⟨"SandWorkersModel", "left", "(I)I"⟩, 17), (⟨"SandWorkersModel", "ofTask", "(II)I"⟩, 17), (⟨"SandWorkersModel", "workers", "()I"⟩, 17), (⟨"SandWorkersModel", "has", "(II)Z"⟩, 17), (⟨"SandWorkersModel", "puts", "(II)V"⟩, 17), (⟨"SandWorkersModel", "pays", "(II)V"⟩, 17), (⟨"SandWorkersModel", "flips", "(I)V"⟩, 17), (⟨"SandWorkersModel", "works", "()V"⟩, 17), (⟨"SandWorkersModel", "gains", "(II)V"⟩, 17), (⟨"SandWorkersModel", "isContract", "(I)Z"⟩, 17), (⟨"SandWorkersModel", "goes", "()V"⟩, 17), (⟨"SandWorkersModel", "outs", "(I)I"⟩, 17), (⟨"SandWorkersModel", "waited", "(I)I"⟩, 17), (⟨"SandWorkersModel", "nextOut", "(I)I"⟩, 17)]
theorem lw_r2 : ∀ q ∈ lw_privs_2, lw_okq q := List.forall_mem_cons.mpr ⟨lw_p16, List.forall_mem_cons.mpr ⟨lw_p17, List.forall_mem_cons.mpr ⟨lw_p18, List.forall_mem_cons.mpr ⟨lw_p19, List.forall_mem_cons.mpr ⟨lw_p20, List.forall_mem_cons.mpr ⟨lw_p21, List.forall_mem_cons.mpr ⟨lw_p22, List.forall_mem_cons.mpr ⟨lw_p23, List.forall_mem_cons.mpr ⟨lw_p24, List.forall_mem_cons.mpr ⟨lw_p25, List.forall_mem_cons.mpr ⟨lw_p26, List.forall_mem_cons.mpr ⟨lw_p27, List.forall_mem_cons.mpr ⟨lw_p28, List.forall_mem_cons.mpr ⟨lw_p29, List.forall_mem_cons.mpr ⟨lw_p30, List.forall_mem_cons.mpr ⟨lw_p31, fun _ h => absurd h List.not_mem_nil⟩⟩⟩⟩⟩⟩⟩⟩⟩⟩⟩⟩⟩⟩⟩⟩
theorem lw_p32 : lw_okq (⟨"SandWorkersModel", "anySand", "()Z"⟩, 17) := ⟨⟨by decide +kernel, by decide +kernel⟩, List.mem_of_getElem? (i := 687) (by decide +kernel), List.mem_of_getElem? (i := 901) (by decide +kernel), List.mem_of_getElem? (i := 902) (by decide +kernel)⟩
theorem lw_p33 : lw_okq (⟨"SandWorkersModel", "sum", "(I)I"⟩, 17) := ⟨⟨by decide +kernel, by decide +kernel⟩, List.mem_of_getElem? (i := 687) (by decide +kernel), List.mem_of_getElem? (i := 913) (by decide +kernel), List.mem_of_getElem? (i := 914) (by decide +kernel)⟩
theorem lw_p34 : lw_okq (⟨"SandWorkersModel", "ahead", "()I"⟩, 17) := ⟨⟨by decide +kernel, by decide +kernel⟩, List.mem_of_getElem? (i := 687) (by decide +kernel), List.mem_of_getElem? (i := 939) (by decide +kernel), List.mem_of_getElem? (i := 940) (by decide +kernel)⟩
theorem lw_p35 : lw_okq (⟨"SandWorkersModel", "goods", "(I)I"⟩, 17) := ⟨⟨by decide +kernel, by decide +kernel⟩, List.mem_of_getElem? (i := 687) (by decide +kernel), List.mem_of_getElem? (i := 943) (by decide +kernel), List.mem_of_getElem? (i := 944) (by decide +kernel)⟩
theorem lw_p36 : lw_okq (⟨"SandWorkersModel", "plays", "()Z"⟩, 17) := ⟨⟨by decide +kernel, by decide +kernel⟩, List.mem_of_getElem? (i := 687) (by decide +kernel), List.mem_of_getElem? (i := 963) (by decide +kernel), List.mem_of_getElem? (i := 964) (by decide +kernel)⟩
theorem lw_p37 : lw_okq (⟨"SandWorkersModel", "reads", "()Z"⟩, 17) := ⟨⟨by decide +kernel, by decide +kernel⟩, List.mem_of_getElem? (i := 687) (by decide +kernel), List.mem_of_getElem? (i := 967) (by decide +kernel), List.mem_of_getElem? (i := 968) (by decide +kernel)⟩
theorem lw_p38 : lw_okq (⟨"SandWorkersModel", "isAt", "(II)Z"⟩, 17) := ⟨⟨by decide +kernel, by decide +kernel⟩, List.mem_of_getElem? (i := 687) (by decide +kernel), List.mem_of_getElem? (i := 971) (by decide +kernel), List.mem_of_getElem? (i := 972) (by decide +kernel)⟩
theorem lw_p39 : lw_okq (⟨"SandWorkersModel", "number", "(I)Z"⟩, 17) := ⟨⟨by decide +kernel, by decide +kernel⟩, List.mem_of_getElem? (i := 687) (by decide +kernel), List.mem_of_getElem? (i := 978) (by decide +kernel), List.mem_of_getElem? (i := 979) (by decide +kernel)⟩
theorem lw_p40 : lw_okq (⟨"SandWorkersModel", "sign", "(I)Z"⟩, 17) := ⟨⟨by decide +kernel, by decide +kernel⟩, List.mem_of_getElem? (i := 687) (by decide +kernel), List.mem_of_getElem? (i := 982) (by decide +kernel), List.mem_of_getElem? (i := 983) (by decide +kernel)⟩
theorem lw_p41 : lw_okq (⟨"SandWorkersModel", "calls", "()I"⟩, 17) := ⟨⟨by decide +kernel, by decide +kernel⟩, List.mem_of_getElem? (i := 687) (by decide +kernel), List.mem_of_getElem? (i := 986) (by decide +kernel), List.mem_of_getElem? (i := 987) (by decide +kernel)⟩
def lw_privs_3 : List (MethodName × Nat) := [(⟨"SandWorkersModel", "anySand", "()Z"⟩, 17), (⟨"SandWorkersModel", "sum", "(I)I"⟩, 17), (⟨"SandWorkersModel", "ahead", "()I"⟩, 17), (⟨"SandWorkersModel", "goods", "(I)I"⟩, 17), (⟨"SandWorkersModel", "plays", "()Z"⟩, 17), (⟨"SandWorkersModel", "reads", "()Z"⟩, 17), (⟨"SandWorkersModel", "isAt", "(II)Z"⟩, 17), (⟨"SandWorkersModel", "number", "(I)Z"⟩, 17), (⟨"SandWorkersModel", "sign", "(I)Z"⟩, 17), (⟨"SandWorkersModel", "calls", "()I"⟩, 17)]
theorem lw_r3 : ∀ q ∈ lw_privs_3, lw_okq q := List.forall_mem_cons.mpr ⟨lw_p32, List.forall_mem_cons.mpr ⟨lw_p33, List.forall_mem_cons.mpr ⟨lw_p34, List.forall_mem_cons.mpr ⟨lw_p35, List.forall_mem_cons.mpr ⟨lw_p36, List.forall_mem_cons.mpr ⟨lw_p37, List.forall_mem_cons.mpr ⟨lw_p38, List.forall_mem_cons.mpr ⟨lw_p39, List.forall_mem_cons.mpr ⟨lw_p40, List.forall_mem_cons.mpr ⟨lw_p41, fun _ h => absurd h List.not_mem_nil⟩⟩⟩⟩⟩⟩⟩⟩⟩⟩
def lw_privs : List (MethodName × Nat) := lw_privs_1 ++ (lw_privs_2 ++ (lw_privs_3))
def lw_tbl : List Cond := k2_sels lw_privs ++ tables_1
theorem lw_privs_ok : ∀ q ∈ lw_privs, lw_okq q := by
  show ∀ q ∈ lw_privs_1 ++ (lw_privs_2 ++ (lw_privs_3)), lw_okq q
  exact List.forall_mem_append.mpr ⟨lw_r1, List.forall_mem_append.mpr ⟨lw_r2, lw_r3⟩⟩
/-- the streams that the claim lets the run draw from -/
abbrev lw_cs : List Choice := [Jvm.Choice.named "NaN.bits"]
theorem lw_bits : nanBits ∈ lw_cs := by first | decide | exact List.mem_cons_self | simp [lw_cs, nanBits]
def RX0 : String := "SandWorkers$Contracts"
def TX0 : u_T := fun k => match k with
  | 0 => ("SandWorkers$Contracts", "count", "I", false)
  | 1 => ("SandWorkers$Contracts", "price", "[I", true)
  | _ => ("SandWorkers$Contracts", "points", "[I", true)
def tyX0 : Nat → FieldType := fun k => match k with
  | 0 => .int
  | 1 => .array .int
  | _ => .array .int
theorem nmX0 : ∀ a, a < 3 → ∀ b, b < 3 → a ≠ b → (TX0 a).2.1 ≠ (TX0 b).2.1 := by decide +kernel
theorem tyX0_ok : ∀ k, k < 3 → parseFieldDescriptor (TX0 k).2.2.1 = some (tyX0 k) := by decide +kernel
abbrev cX0_init : ByteArray := prog_2_method_1_code
def yX0_init : MethodName := ⟨RX0, "<init>", "()V"⟩
abbrev cX0_copyFrom : ByteArray := prog_2_method_2_code
def yX0_copyFrom : MethodName := ⟨RX0, "copyFrom", "(LSandWorkers$Contracts;)V"⟩
abbrev cX0_remove : ByteArray := prog_2_method_3_code
def yX0_remove : MethodName := ⟨RX0, "remove", "(I)V"⟩
def RX1 : String := "SandWorkers$Game"
def TX1 : u_T := fun k => match k with
  | 0 => ("SandWorkers$Game", "seconds", "I", false)
  | 1 => ("SandWorkers$Game", "players", "LSandWorkers$Players;", true)
  | 2 => ("SandWorkers$Game", "glasses", "LSandWorkers$Glasses;", true)
  | 3 => ("SandWorkers$Game", "tasks", "LSandWorkers$Tasks;", true)
  | 4 => ("SandWorkers$Game", "contracts", "LSandWorkers$Contracts;", true)
  | 5 => ("SandWorkers$Game", "due", "[I", true)
  | _ => ("SandWorkers$Game", "dueCount", "I", false)
def tyX1 : Nat → FieldType := fun k => match k with
  | 0 => .int
  | 1 => .object "SandWorkers$Players"
  | 2 => .object "SandWorkers$Glasses"
  | 3 => .object "SandWorkers$Tasks"
  | 4 => .object "SandWorkers$Contracts"
  | 5 => .array .int
  | _ => .int
theorem nmX1 : ∀ a, a < 7 → ∀ b, b < 7 → a ≠ b → (TX1 a).2.1 ≠ (TX1 b).2.1 := by decide +kernel
theorem tyX1_ok : ∀ k, k < 7 → parseFieldDescriptor (TX1 k).2.2.1 = some (tyX1 k) := by decide +kernel
abbrev cX1_init : ByteArray := prog_3_method_1_code
def yX1_init : MethodName := ⟨RX1, "<init>", "()V"⟩
abbrev cX1_copyFrom : ByteArray := prog_3_method_2_code
def yX1_copyFrom : MethodName := ⟨RX1, "copyFrom", "(LSandWorkers$Game;)V"⟩
abbrev cX1_hasPlayer : ByteArray := prog_3_method_3_code
def yX1_hasPlayer : MethodName := ⟨RX1, "hasPlayer", "(I)Z"⟩
abbrev cX1_hasWorker : ByteArray := prog_3_method_4_code
def yX1_hasWorker : MethodName := ⟨RX1, "hasWorker", "(II)Z"⟩
abbrev cX1_hasTask : ByteArray := prog_3_method_5_code
def yX1_hasTask : MethodName := ⟨RX1, "hasTask", "(I)Z"⟩
abbrev cX1_hasContract : ByteArray := prog_3_method_6_code
def yX1_hasContract : MethodName := ⟨RX1, "hasContract", "(I)Z"⟩
abbrev cX1_addPlayer : ByteArray := prog_3_method_7_code
def yX1_addPlayer : MethodName := ⟨RX1, "addPlayer", "()I"⟩
abbrev cX1_setSize : ByteArray := prog_3_method_8_code
def yX1_setSize : MethodName := ⟨RX1, "setSize", "(III)I"⟩
abbrev cX1_addTask : ByteArray := prog_3_method_9_code
def yX1_addTask : MethodName := ⟨RX1, "addTask", "(IIII)I"⟩
abbrev cX1_layContract : ByteArray := prog_3_method_10_code
def yX1_layContract : MethodName := ⟨RX1, "layContract", "(II)I"⟩
abbrev cX1_placesLeft : ByteArray := prog_3_method_11_code
def yX1_placesLeft : MethodName := ⟨RX1, "placesLeft", "(I)I"⟩
abbrev cX1_canBePut : ByteArray := prog_3_method_12_code
def yX1_canBePut : MethodName := ⟨RX1, "canBePut", "(II)Z"⟩
abbrev cX1_putWorker : ByteArray := prog_3_method_13_code
def yX1_putWorker : MethodName := ⟨RX1, "putWorker", "(III)I"⟩
abbrev cX1_takeHome : ByteArray := prog_3_method_14_code
def yX1_takeHome : MethodName := ⟨RX1, "takeHome", "(II)I"⟩
abbrev cX1_flipByHand : ByteArray := prog_3_method_15_code
def yX1_flipByHand : MethodName := ⟨RX1, "flipByHand", "(II)I"⟩
abbrev cX1_buyContract : ByteArray := prog_3_method_16_code
def yX1_buyContract : MethodName := ⟨RX1, "buyContract", "(II)I"⟩
abbrev cX1_letPass : ByteArray := prog_3_method_17_code
def yX1_letPass : MethodName := ⟨RX1, "letPass", "(I)I"⟩
abbrev cX1_advance : ByteArray := prog_3_method_18_code
def yX1_advance : MethodName := ⟨RX1, "advance", "(I)I"⟩
abbrev cX1_addIfDue : ByteArray := prog_3_method_19_code
def yX1_addIfDue : MethodName := ⟨RX1, "addIfDue", "(I)V"⟩
abbrev cX1_finishDue : ByteArray := prog_3_method_20_code
def yX1_finishDue : MethodName := ⟨RX1, "finishDue", "()I"⟩
abbrev cX1_takeEffect : ByteArray := prog_3_method_21_code
def yX1_takeEffect : MethodName := ⟨RX1, "takeEffect", "(II)V"⟩
abbrev cX1_untilOneIsOut : ByteArray := prog_3_method_22_code
def yX1_untilOneIsOut : MethodName := ⟨RX1, "untilOneIsOut", "(I)I"⟩
abbrev cX1_bestTask : ByteArray := prog_3_method_23_code
def yX1_bestTask : MethodName := ⟨RX1, "bestTask", "(I)I"⟩
abbrev cX1_untilAffordable : ByteArray := prog_3_method_24_code
def yX1_untilAffordable : MethodName := ⟨RX1, "untilAffordable", "(III)I"⟩
def RX2 : String := "SandWorkers$Glasses"
def TX2 : u_T := fun k => match k with
  | 0 => ("SandWorkers$Glasses", "puts", "I", false)
  | 1 => ("SandWorkers$Glasses", "size", "[I", true)
  | 2 => ("SandWorkers$Glasses", "task", "[I", true)
  | 3 => ("SandWorkers$Glasses", "above", "[I", true)
  | 4 => ("SandWorkers$Glasses", "turn", "[I", true)
  | 5 => ("SandWorkers$Glasses", "works", "[I", true)
  | 6 => ("SandWorkers$Glasses", "waiting", "[I", true)
  | _ => ("SandWorkers$Glasses", "flips", "[I", true)
def tyX2 : Nat → FieldType := fun k => match k with
  | 0 => .int
  | 1 => .array .int
  | 2 => .array .int
  | 3 => .array .int
  | 4 => .array .int
  | 5 => .array .int
  | 6 => .array .int
  | _ => .array .int
theorem nmX2 : ∀ a, a < 8 → ∀ b, b < 8 → a ≠ b → (TX2 a).2.1 ≠ (TX2 b).2.1 := by decide +kernel
theorem tyX2_ok : ∀ k, k < 8 → parseFieldDescriptor (TX2 k).2.2.1 = some (tyX2 k) := by decide +kernel
abbrev cX2_init : ByteArray := prog_4_method_1_code
def yX2_init : MethodName := ⟨RX2, "<init>", "()V"⟩
abbrev cX2_copyFrom : ByteArray := prog_4_method_2_code
def yX2_copyFrom : MethodName := ⟨RX2, "copyFrom", "(LSandWorkers$Glasses;)V"⟩
abbrev cX2_isOut : ByteArray := prog_4_method_3_code
def yX2_isOut : MethodName := ⟨RX2, "isOut", "(I)Z"⟩
abbrev cX2_start : ByteArray := prog_4_method_4_code
def yX2_start : MethodName := ⟨RX2, "start", "(II)V"⟩
abbrev cX2_flipOne : ByteArray := prog_4_method_5_code
def yX2_flipOne : MethodName := ⟨RX2, "flipOne", "(I)V"⟩
abbrev cX2_numberOn : ByteArray := prog_4_method_6_code
def yX2_numberOn : MethodName := ⟨RX2, "numberOn", "(I)I"⟩
abbrev cX2_aheadOnTask : ByteArray := prog_4_method_7_code
def yX2_aheadOnTask : MethodName := ⟨RX2, "aheadOnTask", "(I)I"⟩
abbrev cX2_atPlace : ByteArray := prog_4_method_8_code
def yX2_atPlace : MethodName := ⟨RX2, "atPlace", "(II)I"⟩
abbrev cX2_nextOut : ByteArray := prog_4_method_9_code
def yX2_nextOut : MethodName := ⟨RX2, "nextOut", "()I"⟩
abbrev cX2_untilNextOut : ByteArray := prog_4_method_10_code
def yX2_untilNextOut : MethodName := ⟨RX2, "untilNextOut", "()I"⟩
abbrev cX2_outOf : ByteArray := prog_4_method_11_code
def yX2_outOf : MethodName := ⟨RX2, "outOf", "(I)I"⟩
abbrev cX2_worksOf : ByteArray := prog_4_method_12_code
def yX2_worksOf : MethodName := ⟨RX2, "worksOf", "(I)I"⟩
abbrev cX2_waitingOf : ByteArray := prog_4_method_13_code
def yX2_waitingOf : MethodName := ⟨RX2, "waitingOf", "(I)I"⟩
abbrev cX2_allWorks : ByteArray := prog_4_method_14_code
def yX2_allWorks : MethodName := ⟨RX2, "allWorks", "()I"⟩
abbrev cX2_allFlips : ByteArray := prog_4_method_15_code
def yX2_allFlips : MethodName := ⟨RX2, "allFlips", "()I"⟩
abbrev cX2_sumOf : ByteArray := prog_4_method_16_code
def yX2_sumOf : MethodName := ⟨RX2, "sumOf", "([II)I"⟩
abbrev cX2_sumOfAll : ByteArray := prog_4_method_17_code
def yX2_sumOfAll : MethodName := ⟨RX2, "sumOfAll", "([I)I"⟩
def RX3 : String := "SandWorkers$History"
def TX3 : u_T := fun k => match k with
  | 0 => ("SandWorkers$History", "count", "I", false)
  | _ => ("SandWorkers$History", "states", "[LSandWorkers$Game;", true)
def tyX3 : Nat → FieldType := fun k => match k with
  | 0 => .int
  | _ => .array (.object "SandWorkers$Game")
theorem nmX3 : ∀ a, a < 2 → ∀ b, b < 2 → a ≠ b → (TX3 a).2.1 ≠ (TX3 b).2.1 := by decide +kernel
theorem tyX3_ok : ∀ k, k < 2 → parseFieldDescriptor (TX3 k).2.2.1 = some (tyX3 k) := by decide +kernel
abbrev cX3_init : ByteArray := prog_5_method_1_code
def yX3_init : MethodName := ⟨RX3, "<init>", "()V"⟩
abbrev cX3_record : ByteArray := prog_5_method_2_code
def yX3_record : MethodName := ⟨RX3, "record", "(LSandWorkers$Game;)V"⟩
abbrev cX3_dropOldest : ByteArray := prog_5_method_3_code
def yX3_dropOldest : MethodName := ⟨RX3, "dropOldest", "()V"⟩
abbrev cX3_restore : ByteArray := prog_5_method_4_code
def yX3_restore : MethodName := ⟨RX3, "restore", "(LSandWorkers$Game;)I"⟩
def RX4 : String := "SandWorkers$Orders"
def TX4 : u_T := fun k => match k with
  | 0 => ("SandWorkers$Orders", "length", "I", false)
  | 1 => ("SandWorkers$Orders", "obeyed", "I", false)
  | 2 => ("SandWorkers$Orders", "position", "I", false)
  | 3 => ("SandWorkers$Orders", "reason", "I", false)
  | 4 => ("SandWorkers$Orders", "cause", "I", false)
  | 5 => ("SandWorkers$Orders", "cursor", "I", false)
  | 6 => ("SandWorkers$Orders", "text", "[I", true)
  | _ => ("SandWorkers$Orders", "numbers", "[I", true)
def tyX4 : Nat → FieldType := fun k => match k with
  | 0 => .int
  | 1 => .int
  | 2 => .int
  | 3 => .int
  | 4 => .int
  | 5 => .int
  | 6 => .array .int
  | _ => .array .int
theorem nmX4 : ∀ a, a < 8 → ∀ b, b < 8 → a ≠ b → (TX4 a).2.1 ≠ (TX4 b).2.1 := by decide +kernel
theorem tyX4_ok : ∀ k, k < 8 → parseFieldDescriptor (TX4 k).2.2.1 = some (tyX4 k) := by decide +kernel
abbrev cX4_init : ByteArray := prog_6_method_1_code
def yX4_init : MethodName := ⟨RX4, "<init>", "()V"⟩
abbrev cX4_append : ByteArray := prog_6_method_2_code
def yX4_append : MethodName := ⟨RX4, "append", "(I)I"⟩
abbrev cX4_clear : ByteArray := prog_6_method_3_code
def yX4_clear : MethodName := ⟨RX4, "clear", "()I"⟩
abbrev cX4_obeyAll : ByteArray := prog_6_method_4_code
def yX4_obeyAll : MethodName := ⟨RX4, "obeyAll", "(LSandWorkers$Game;)Z"⟩
abbrev cX4_readOrder : ByteArray := prog_6_method_5_code
def yX4_readOrder : MethodName := ⟨RX4, "readOrder", "()Z"⟩
abbrev cX4_readNumber : ByteArray := prog_6_method_6_code
def yX4_readNumber : MethodName := ⟨RX4, "readNumber", "(I)Z"⟩
abbrev cX4_readSign : ByteArray := prog_6_method_7_code
def yX4_readSign : MethodName := ⟨RX4, "readSign", "(I)Z"⟩
abbrev cX4_signAt : ByteArray := prog_6_method_8_code
def yX4_signAt : MethodName := ⟨RX4, "signAt", "(I)I"⟩
abbrev cX4_numbersOf : ByteArray := prog_6_method_9_code
def yX4_numbersOf : MethodName := ⟨RX4, "numbersOf", "(I)I"⟩
abbrev cX4_obey : ByteArray := prog_6_method_10_code
def yX4_obey : MethodName := ⟨RX4, "obey", "(LSandWorkers$Game;I)I"⟩
def RX5 : String := "SandWorkers$Players"
def TX5 : u_T := fun k => match k with
  | 0 => ("SandWorkers$Players", "count", "I", false)
  | 1 => ("SandWorkers$Players", "lost", "I", false)
  | 2 => ("SandWorkers$Players", "goods", "[I", true)
  | _ => ("SandWorkers$Players", "points", "[I", true)
def tyX5 : Nat → FieldType := fun k => match k with
  | 0 => .int
  | 1 => .int
  | 2 => .array .int
  | _ => .array .int
theorem nmX5 : ∀ a, a < 4 → ∀ b, b < 4 → a ≠ b → (TX5 a).2.1 ≠ (TX5 b).2.1 := by decide +kernel
theorem tyX5_ok : ∀ k, k < 4 → parseFieldDescriptor (TX5 k).2.2.1 = some (tyX5 k) := by decide +kernel
abbrev cX5_init : ByteArray := prog_7_method_1_code
def yX5_init : MethodName := ⟨RX5, "<init>", "()V"⟩
abbrev cX5_copyFrom : ByteArray := prog_7_method_2_code
def yX5_copyFrom : MethodName := ⟨RX5, "copyFrom", "(LSandWorkers$Players;)V"⟩
abbrev cX5_amountOf : ByteArray := prog_7_method_3_code
def yX5_amountOf : MethodName := ⟨RX5, "amountOf", "(II)I"⟩
abbrev cX5_have : ByteArray := prog_7_method_4_code
def yX5_have : MethodName := ⟨RX5, "have", "(II)Z"⟩
abbrev cX5_allWhoHave : ByteArray := prog_7_method_5_code
def yX5_allWhoHave : MethodName := ⟨RX5, "allWhoHave", "(I)I"⟩
abbrev cX5_pay : ByteArray := prog_7_method_6_code
def yX5_pay : MethodName := ⟨RX5, "pay", "(II)V"⟩
abbrev cX5_gain : ByteArray := prog_7_method_7_code
def yX5_gain : MethodName := ⟨RX5, "gain", "(II)V"⟩
abbrev cX5_allGoodsOf : ByteArray := prog_7_method_8_code
def yX5_allGoodsOf : MethodName := ⟨RX5, "allGoodsOf", "(I)I"⟩
abbrev cX5_isAheadOf : ByteArray := prog_7_method_9_code
def yX5_isAheadOf : MethodName := ⟨RX5, "isAheadOf", "(II)Z"⟩
abbrev cX5_ahead : ByteArray := prog_7_method_10_code
def yX5_ahead : MethodName := ⟨RX5, "ahead", "()I"⟩
def RX6 : String := "SandWorkers$Tasks"
def TX6 : u_T := fun k => match k with
  | 0 => ("SandWorkers$Tasks", "count", "I", false)
  | 1 => ("SandWorkers$Tasks", "places", "[I", true)
  | 2 => ("SandWorkers$Tasks", "cost", "[I", true)
  | 3 => ("SandWorkers$Tasks", "gain", "[I", true)
  | 4 => ("SandWorkers$Tasks", "effect", "[I", true)
  | _ => ("SandWorkers$Tasks", "works", "[I", true)
def tyX6 : Nat → FieldType := fun k => match k with
  | 0 => .int
  | 1 => .array .int
  | 2 => .array .int
  | 3 => .array .int
  | 4 => .array .int
  | _ => .array .int
theorem nmX6 : ∀ a, a < 6 → ∀ b, b < 6 → a ≠ b → (TX6 a).2.1 ≠ (TX6 b).2.1 := by decide +kernel
theorem tyX6_ok : ∀ k, k < 6 → parseFieldDescriptor (TX6 k).2.2.1 = some (tyX6 k) := by decide +kernel
abbrev cX6_init : ByteArray := prog_8_method_1_code
def yX6_init : MethodName := ⟨RX6, "<init>", "()V"⟩
abbrev cX6_copyFrom : ByteArray := prog_8_method_2_code
def yX6_copyFrom : MethodName := ⟨RX6, "copyFrom", "(LSandWorkers$Tasks;)V"⟩
abbrev cX6_differenceOf : ByteArray := prog_8_method_3_code
def yX6_differenceOf : MethodName := ⟨RX6, "differenceOf", "(I)I"⟩
def RX7 : String := "SandWorkers"
def TX7 : u_T := fun k => match k with
  | 0 => ("SandWorkers", "game", "LSandWorkers$Game;", true)
  | 1 => ("SandWorkers", "trial", "LSandWorkers$Game;", true)
  | 2 => ("SandWorkers", "history", "LSandWorkers$History;", true)
  | _ => ("SandWorkers", "orders", "LSandWorkers$Orders;", true)
def tyX7 : Nat → FieldType := fun k => match k with
  | 0 => .object "SandWorkers$Game"
  | 1 => .object "SandWorkers$Game"
  | 2 => .object "SandWorkers$History"
  | _ => .object "SandWorkers$Orders"
theorem nmX7 : ∀ a, a < 4 → ∀ b, b < 4 → a ≠ b → (TX7 a).2.1 ≠ (TX7 b).2.1 := by decide +kernel
theorem tyX7_ok : ∀ k, k < 4 → parseFieldDescriptor (TX7 k).2.2.1 = some (tyX7 k) := by decide +kernel
abbrev cX7_init : ByteArray := prog_1_method_1_code
def yX7_init : MethodName := ⟨RX7, "<init>", "()V"⟩
abbrev cX7_player : ByteArray := prog_1_method_2_code
def yX7_player : MethodName := ⟨RX7, "player", "()I"⟩
abbrev cX7_size : ByteArray := prog_1_method_3_code
def yX7_size : MethodName := ⟨RX7, "size", "(III)I"⟩
abbrev cX7_task : ByteArray := prog_1_method_4_code
def yX7_task : MethodName := ⟨RX7, "task", "(IIII)I"⟩
abbrev cX7_contract : ByteArray := prog_1_method_5_code
def yX7_contract : MethodName := ⟨RX7, "contract", "(II)I"⟩
abbrev cX7_put : ByteArray := prog_1_method_6_code
def yX7_put : MethodName := ⟨RX7, "put", "(III)I"⟩
abbrev cX7_home : ByteArray := prog_1_method_7_code
def yX7_home : MethodName := ⟨RX7, "home", "(II)I"⟩
abbrev cX7_flip : ByteArray := prog_1_method_8_code
def yX7_flip : MethodName := ⟨RX7, "flip", "(II)I"⟩
abbrev cX7_buy : ByteArray := prog_1_method_9_code
def yX7_buy : MethodName := ⟨RX7, "buy", "(II)I"⟩
abbrev cX7_pass : ByteArray := prog_1_method_10_code
def yX7_pass : MethodName := ⟨RX7, "pass", "(I)I"⟩
abbrev cX7_playerOf : ByteArray := prog_1_method_11_code
def yX7_playerOf : MethodName := ⟨RX7, "playerOf", "(II)I"⟩
abbrev cX7_workerOf : ByteArray := prog_1_method_12_code
def yX7_workerOf : MethodName := ⟨RX7, "workerOf", "(III)I"⟩
abbrev cX7_taskOf : ByteArray := prog_1_method_13_code
def yX7_taskOf : MethodName := ⟨RX7, "taskOf", "(II)I"⟩
abbrev cX7_on : ByteArray := prog_1_method_14_code
def yX7_on : MethodName := ⟨RX7, "on", "(II)I"⟩
abbrev cX7_contractOf : ByteArray := prog_1_method_15_code
def yX7_contractOf : MethodName := ⟨RX7, "contractOf", "(II)I"⟩
abbrev cX7_next : ByteArray := prog_1_method_16_code
def yX7_next : MethodName := ⟨RX7, "next", "(I)I"⟩
abbrev cX7_would : ByteArray := prog_1_method_17_code
def yX7_would : MethodName := ⟨RX7, "would", "(III)I"⟩
abbrev cX7_best : ByteArray := prog_1_method_18_code
def yX7_best : MethodName := ⟨RX7, "best", "(III)I"⟩
abbrev cX7_earns : ByteArray := prog_1_method_19_code
def yX7_earns : MethodName := ⟨RX7, "earns", "(III)I"⟩
abbrev cX7_busy : ByteArray := prog_1_method_20_code
def yX7_busy : MethodName := ⟨RX7, "busy", "(II)I"⟩
abbrev cX7_count : ByteArray := prog_1_method_21_code
def yX7_count : MethodName := ⟨RX7, "count", "(I)I"⟩
abbrev cX7_undo : ByteArray := prog_1_method_22_code
def yX7_undo : MethodName := ⟨RX7, "undo", "()I"⟩
abbrev cX7_type : ByteArray := prog_1_method_23_code
def yX7_type : MethodName := ⟨RX7, "type", "(I)I"⟩
abbrev cX7_clearText : ByteArray := prog_1_method_24_code
def yX7_clearText : MethodName := ⟨RX7, "clearText", "()I"⟩
abbrev cX7_fault : ByteArray := prog_1_method_25_code
def yX7_fault : MethodName := ⟨RX7, "fault", "(I)I"⟩
abbrev cX7_play : ByteArray := prog_1_method_26_code
def yX7_play : MethodName := ⟨RX7, "play", "()I"⟩
abbrev cX7_startTrial : ByteArray := prog_1_method_27_code
def yX7_startTrial : MethodName := ⟨RX7, "startTrial", "()V"⟩
abbrev cX7_keepTrial : ByteArray := prog_1_method_28_code
def yX7_keepTrial : MethodName := ⟨RX7, "keepTrial", "(I)I"⟩
abbrev cX7_within : ByteArray := prog_1_method_29_code
def yX7_within : MethodName := ⟨RX7, "within", "(III)Z"⟩
abbrev cX7_amountIn : ByteArray := prog_1_method_30_code
def yX7_amountIn : MethodName := ⟨RX7, "amountIn", "(II)I"⟩
abbrev cX7_allAmountsIn : ByteArray := prog_1_method_31_code
def yX7_allAmountsIn : MethodName := ⟨RX7, "allAmountsIn", "(I)I"⟩
abbrev cX7_glassOf : ByteArray := prog_1_method_32_code
def yX7_glassOf : MethodName := ⟨RX7, "glassOf", "(II)I"⟩
abbrev cX7_playerWith : ByteArray := prog_1_method_33_code
def yX7_playerWith : MethodName := ⟨RX7, "playerWith", "(I)I"⟩
abbrev cX7_toldOf : ByteArray := prog_1_method_34_code
def yX7_toldOf : MethodName := ⟨RX7, "toldOf", "(I)I"⟩
abbrev cX7_bitsOfShare : ByteArray := prog_1_method_35_code
def yX7_bitsOfShare : MethodName := ⟨RX7, "bitsOfShare", "(F)I"⟩
abbrev cX7_copyRow : ByteArray := prog_1_method_36_code
def yX7_copyRow : MethodName := ⟨RX7, "copyRow", "([I[I)V"⟩
def RX8 : String := "SandWorkersModel"
def TX8 : u_T := fun k => match k with
  | 0 => ("SandWorkersModel", "s", "[I", true)
  | 1 => ("SandWorkersModel", "past", "[I", true)
  | 2 => ("SandWorkersModel", "held", "[I", true)
  | 3 => ("SandWorkersModel", "tried", "[I", true)
  | 4 => ("SandWorkersModel", "pasts", "I", false)
  | 5 => ("SandWorkersModel", "runs", "Z", false)
  | 6 => ("SandWorkersModel", "text", "[I", true)
  | 7 => ("SandWorkersModel", "typed", "I", false)
  | 8 => ("SandWorkersModel", "ends", "[I", true)
  | 9 => ("SandWorkersModel", "ended", "I", false)
  | 10 => ("SandWorkersModel", "spot", "I", false)
  | 11 => ("SandWorkersModel", "from", "I", false)
  | 12 => ("SandWorkersModel", "reason", "I", false)
  | 13 => ("SandWorkersModel", "cause", "I", false)
  | 14 => ("SandWorkersModel", "orders", "I", false)
  | 15 => ("SandWorkersModel", "order", "I", false)
  | _ => ("SandWorkersModel", "numbers", "[I", true)
def tyX8 : Nat → FieldType := fun k => match k with
  | 0 => .array .int
  | 1 => .array .int
  | 2 => .array .int
  | 3 => .array .int
  | 4 => .int
  | 5 => .boolean
  | 6 => .array .int
  | 7 => .int
  | 8 => .array .int
  | 9 => .int
  | 10 => .int
  | 11 => .int
  | 12 => .int
  | 13 => .int
  | 14 => .int
  | 15 => .int
  | _ => .array .int
theorem nmX8 : ∀ a, a < 17 → ∀ b, b < 17 → a ≠ b → (TX8 a).2.1 ≠ (TX8 b).2.1 := by decide +kernel
theorem tyX8_ok : ∀ k, k < 17 → parseFieldDescriptor (TX8 k).2.2.1 = some (tyX8 k) := by decide +kernel
abbrev cX8_init : ByteArray := prog_10_method_1_code
def yX8_init : MethodName := ⟨RX8, "<init>", "()V"⟩
abbrev cX8_in : ByteArray := prog_10_method_3_code
def yX8_in : MethodName := ⟨RX8, "in", "(III)Z"⟩
abbrev cX8_copies : ByteArray := prog_10_method_4_code
def yX8_copies : MethodName := ⟨RX8, "copies", "([I[I)V"⟩
abbrev cX8_changes : ByteArray := prog_10_method_5_code
def yX8_changes : MethodName := ⟨RX8, "changes", "()V"⟩
abbrev cX8_isPlayer : ByteArray := prog_10_method_6_code
def yX8_isPlayer : MethodName := ⟨RX8, "isPlayer", "(I)Z"⟩
abbrev cX8_isWorker : ByteArray := prog_10_method_7_code
def yX8_isWorker : MethodName := ⟨RX8, "isWorker", "(II)Z"⟩
abbrev cX8_isTask : ByteArray := prog_10_method_8_code
def yX8_isTask : MethodName := ⟨RX8, "isTask", "(I)Z"⟩
abbrev cX8_isContract : ByteArray := prog_10_method_9_code
def yX8_isContract : MethodName := ⟨RX8, "isContract", "(I)Z"⟩
abbrev cX8_of : ByteArray := prog_10_method_10_code
def yX8_of : MethodName := ⟨RX8, "of", "(II)I"⟩
abbrev cX8_ofTask : ByteArray := prog_10_method_11_code
def yX8_ofTask : MethodName := ⟨RX8, "ofTask", "(II)I"⟩
abbrev cX8_workers : ByteArray := prog_10_method_12_code
def yX8_workers : MethodName := ⟨RX8, "workers", "()I"⟩
abbrev cX8_amount : ByteArray := prog_10_method_13_code
def yX8_amount : MethodName := ⟨RX8, "amount", "(II)I"⟩
abbrev cX8_has : ByteArray := prog_10_method_14_code
def yX8_has : MethodName := ⟨RX8, "has", "(II)Z"⟩
abbrev cX8_pays : ByteArray := prog_10_method_15_code
def yX8_pays : MethodName := ⟨RX8, "pays", "(II)V"⟩
abbrev cX8_player : ByteArray := prog_10_method_16_code
def yX8_player : MethodName := ⟨RX8, "player", "()I"⟩
abbrev cX8_size : ByteArray := prog_10_method_17_code
def yX8_size : MethodName := ⟨RX8, "size", "(III)I"⟩
abbrev cX8_task : ByteArray := prog_10_method_18_code
def yX8_task : MethodName := ⟨RX8, "task", "(IIII)I"⟩
abbrev cX8_contract : ByteArray := prog_10_method_19_code
def yX8_contract : MethodName := ⟨RX8, "contract", "(II)I"⟩
abbrev cX8_left : ByteArray := prog_10_method_20_code
def yX8_left : MethodName := ⟨RX8, "left", "(I)I"⟩
abbrev cX8_canPut : ByteArray := prog_10_method_21_code
def yX8_canPut : MethodName := ⟨RX8, "canPut", "(II)Z"⟩
abbrev cX8_puts : ByteArray := prog_10_method_22_code
def yX8_puts : MethodName := ⟨RX8, "puts", "(II)V"⟩
abbrev cX8_put : ByteArray := prog_10_method_23_code
def yX8_put : MethodName := ⟨RX8, "put", "(III)I"⟩
abbrev cX8_home : ByteArray := prog_10_method_24_code
def yX8_home : MethodName := ⟨RX8, "home", "(II)I"⟩
abbrev cX8_flips : ByteArray := prog_10_method_25_code
def yX8_flips : MethodName := ⟨RX8, "flips", "(I)V"⟩
abbrev cX8_gains : ByteArray := prog_10_method_26_code
def yX8_gains : MethodName := ⟨RX8, "gains", "(II)V"⟩
abbrev cX8_works : ByteArray := prog_10_method_27_code
def yX8_works : MethodName := ⟨RX8, "works", "()V"⟩
abbrev cX8_flip : ByteArray := prog_10_method_28_code
def yX8_flip : MethodName := ⟨RX8, "flip", "(II)I"⟩
abbrev cX8_buy : ByteArray := prog_10_method_29_code
def yX8_buy : MethodName := ⟨RX8, "buy", "(II)I"⟩
abbrev cX8_goes : ByteArray := prog_10_method_30_code
def yX8_goes : MethodName := ⟨RX8, "goes", "()V"⟩
abbrev cX8_pass : ByteArray := prog_10_method_31_code
def yX8_pass : MethodName := ⟨RX8, "pass", "(I)I"⟩
abbrev cX8_outs : ByteArray := prog_10_method_32_code
def yX8_outs : MethodName := ⟨RX8, "outs", "(I)I"⟩
abbrev cX8_waited : ByteArray := prog_10_method_33_code
def yX8_waited : MethodName := ⟨RX8, "waited", "(I)I"⟩
abbrev cX8_nextOut : ByteArray := prog_10_method_34_code
def yX8_nextOut : MethodName := ⟨RX8, "nextOut", "(I)I"⟩
abbrev cX8_playerOf : ByteArray := prog_10_method_35_code
def yX8_playerOf : MethodName := ⟨RX8, "playerOf", "(II)I"⟩
abbrev cX8_workerOf : ByteArray := prog_10_method_36_code
def yX8_workerOf : MethodName := ⟨RX8, "workerOf", "(III)I"⟩
abbrev cX8_taskOf : ByteArray := prog_10_method_37_code
def yX8_taskOf : MethodName := ⟨RX8, "taskOf", "(II)I"⟩
abbrev cX8_told : ByteArray := prog_10_method_38_code
def yX8_told : MethodName := ⟨RX8, "told", "(I)I"⟩
abbrev cX8_on : ByteArray := prog_10_method_39_code
def yX8_on : MethodName := ⟨RX8, "on", "(II)I"⟩
abbrev cX8_contractOf : ByteArray := prog_10_method_40_code
def yX8_contractOf : MethodName := ⟨RX8, "contractOf", "(II)I"⟩
abbrev cX8_anySand : ByteArray := prog_10_method_41_code
def yX8_anySand : MethodName := ⟨RX8, "anySand", "()Z"⟩
abbrev cX8_next : ByteArray := prog_10_method_42_code
def yX8_next : MethodName := ⟨RX8, "next", "(I)I"⟩
abbrev cX8_would : ByteArray := prog_10_method_43_code
def yX8_would : MethodName := ⟨RX8, "would", "(III)I"⟩
abbrev cX8_sum : ByteArray := prog_10_method_44_code
def yX8_sum : MethodName := ⟨RX8, "sum", "(I)I"⟩
abbrev cX8_best : ByteArray := prog_10_method_45_code
def yX8_best : MethodName := ⟨RX8, "best", "(III)I"⟩
abbrev cX8_earns : ByteArray := prog_10_method_46_code
def yX8_earns : MethodName := ⟨RX8, "earns", "(III)I"⟩
abbrev cX8_busy : ByteArray := prog_10_method_47_code
def yX8_busy : MethodName := ⟨RX8, "busy", "(II)I"⟩
abbrev cX8_goods : ByteArray := prog_10_method_48_code
def yX8_goods : MethodName := ⟨RX8, "goods", "(I)I"⟩
abbrev cX8_ahead : ByteArray := prog_10_method_49_code
def yX8_ahead : MethodName := ⟨RX8, "ahead", "()I"⟩
abbrev cX8_count : ByteArray := prog_10_method_50_code
def yX8_count : MethodName := ⟨RX8, "count", "(I)I"⟩
abbrev cX8_undo : ByteArray := prog_10_method_51_code
def yX8_undo : MethodName := ⟨RX8, "undo", "()I"⟩
abbrev cX8_type : ByteArray := prog_10_method_52_code
def yX8_type : MethodName := ⟨RX8, "type", "(I)I"⟩
abbrev cX8_clearText : ByteArray := prog_10_method_53_code
def yX8_clearText : MethodName := ⟨RX8, "clearText", "()I"⟩
abbrev cX8_isAt : ByteArray := prog_10_method_54_code
def yX8_isAt : MethodName := ⟨RX8, "isAt", "(II)Z"⟩
abbrev cX8_sign : ByteArray := prog_10_method_55_code
def yX8_sign : MethodName := ⟨RX8, "sign", "(I)Z"⟩
abbrev cX8_number : ByteArray := prog_10_method_56_code
def yX8_number : MethodName := ⟨RX8, "number", "(I)Z"⟩
abbrev cX8_numbersOf : ByteArray := prog_10_method_57_code
def yX8_numbersOf : MethodName := ⟨RX8, "numbersOf", "(I)I"⟩
abbrev cX8_reads : ByteArray := prog_10_method_58_code
def yX8_reads : MethodName := ⟨RX8, "reads", "()Z"⟩
abbrev cX8_calls : ByteArray := prog_10_method_59_code
def yX8_calls : MethodName := ⟨RX8, "calls", "()I"⟩
abbrev cX8_plays : ByteArray := prog_10_method_60_code
def yX8_plays : MethodName := ⟨RX8, "plays", "()Z"⟩
abbrev cX8_fault : ByteArray := prog_10_method_61_code
def yX8_fault : MethodName := ⟨RX8, "fault", "(I)I"⟩
abbrev cX8_play : ByteArray := prog_10_method_62_code
def yX8_play : MethodName := ⟨RX8, "play", "()I"⟩
def RJxf58ca : String := "java/lang/Float"
def TJxf58ca : u_T := fun k => match k with
  | _ => ("", "", "", false)
def tyJxf58ca : Nat → FieldType := fun k => match k with
  | _ => .int
abbrev cJxf58ca_isNaN_12338 : ByteArray := prog_11_method_6_code
def yJxf58ca_isNaN_12338 : MethodName := ⟨RJxf58ca, "isNaN", "(F)Z"⟩
abbrev cJxf58ca_floatToIntBits_5c35a : ByteArray := prog_11_method_24_code
def yJxf58ca_floatToIntBits_5c35a : MethodName := ⟨RJxf58ca, "floatToIntBits", "(F)I"⟩
def RJ9 : String := "java/lang/Math"
def TJ9 : u_T := fun k => match k with
  | _ => ("", "", "", false)
def tyJ9 : Nat → FieldType := fun k => match k with
  | _ => .int
abbrev cJ9_max_7cf53 : ByteArray := prog_12_method_65_code
def yJ9_max_7cf53 : MethodName := ⟨RJ9, "max", "(II)I"⟩
abbrev cJ9_min_7cf53 : ByteArray := prog_12_method_69_code
def yJ9_min_7cf53 : MethodName := ⟨RJ9, "min", "(II)I"⟩
def RJ10 : String := "java/lang/System"
def TJ10 : u_T := fun k => match k with
  | _ => ("", "", "", false)
def tyJ10 : Nat → FieldType := fun k => match k with
  | _ => .int
def RL : String := "SandWorkersLaw"
abbrev cL_law : ByteArray := code
abbrev vwCl : List vw_C := [(RX0, TX0, 3), (RX1, TX1, 7), (RX2, TX2, 8), (RX3, TX3, 2), (RX4, TX4, 8), (RX5, TX5, 4), (RX6, TX6, 6), (RX7, TX7, 4), (RX8, TX8, 17)]
end
section
/-! THE WORDS: one list for every method -/
def BIG : List Cond := lw_tbl.filter goodWord
theorem big_of {w : Cond} (h : w ∈ lw_tbl) (hg : goodWord w = true) : w ∈ BIG := List.mem_filter.mpr ⟨h, hg⟩
theorem big_1 {i : Nat} {w : Cond} (h : tables_1_1[i]? = some w) (hg : goodWord w = true) : w ∈ BIG := big_of (List.mem_append_right _ (List.mem_append_left _ (List.mem_of_getElem? h))) hg
theorem big_2 {i : Nat} {w : Cond} (h : tables_1_2[i]? = some w) (hg : goodWord w = true) : w ∈ BIG := big_of (List.mem_append_right _ (List.mem_append_right _ (List.mem_append_left _ (List.mem_of_getElem? h)))) hg
theorem big_3 {i : Nat} {w : Cond} (h : tables_1_3[i]? = some w) (hg : goodWord w = true) : w ∈ BIG := big_of (List.mem_append_right _ (List.mem_append_right _ (List.mem_append_right _ (List.mem_append_left _ (List.mem_of_getElem? h))))) hg
theorem big_4 {i : Nat} {w : Cond} (h : tables_1_4[i]? = some w) (hg : goodWord w = true) : w ∈ BIG := big_of (List.mem_append_right _ (List.mem_append_right _ (List.mem_append_right _ (List.mem_append_right _ (List.mem_append_left _ (List.mem_of_getElem? h)))))) hg
theorem big_5 {i : Nat} {w : Cond} (h : tables_1_5[i]? = some w) (hg : goodWord w = true) : w ∈ BIG := big_of (List.mem_append_right _ (List.mem_append_right _ (List.mem_append_right _ (List.mem_append_right _ (List.mem_append_right _ (List.mem_of_getElem? h)))))) hg
theorem big_p {i : Nat} {q : MethodName × Nat} (h : lw_privs[i]? = some q) : Cond.selects q.1.cls q.1 q.1 ∈ BIG := big_of (List.mem_append_left _ (List.mem_map.mpr ⟨q, List.mem_of_getElem? h, rfl⟩)) rfl
theorem big_good {ws : List Cond} (h : ∀ w ∈ ws, w ∈ BIG) : GoodIn BIG ws := fun w hw => ⟨h w hw, good_of_word (List.mem_filter.mp (h w hw)).2⟩
theorem big_big : ∀ w ∈ BIG, w ∈ BIG := fun _ h => h
/-! nest links -/
def nwl : List (String × Nat × MethodName × String) := [(RX0, 22, yX7_copyRow, RX7), (RX1, 118, yX7_playerWith, RX7), (RX1, 63, yX7_within, RX7), (RX1, 79, yX7_glassOf, RX7), (RX2, 37, yX7_copyRow, RX7), (RX2, 54, yX7_glassOf, RX7), (RX4, 60, yX7_within, RX7), (RX5, 25, yX7_copyRow, RX7), (RX5, 33, yX7_amountIn, RX7), (RX6, 31, yX7_copyRow, RX7), (RX6, 35, yX7_allAmountsIn, RX7)]
def NW (U : State) : Prop := ∀ q ∈ nwl, va_Nw (.methodLinkNest q.1 q.2.1 q.2.2.1 q.2.2.2) U
theorem NW.warm {s U : State} (hW : s.WarmedH U.vm) (h : NW s) : NW U := fun q hq => va_Nw.warmM hW (h q hq)
theorem NW.same {u U : State} (hv : u.vm = U.vm) (h : NW u) : NW U := fun q hq => va_Nw.same rfl hv (h q hq)
/-! the classes' facts that stay: G = (their numbers, int arrays' number, the number of arrays of Game) -/
abbrev GG : Type := va_G × ClassId × ClassId
def KK (G : GG) (U : State) : Prop := va_K G.1 vwCl [(G.2.1, .int), (G.2.2, .object RX1)] U ∧ NW U
theorem KK.warm {G : GG} {s U : State} (hW : s.WarmedH U.vm) (h : KK G s) : KK G U := ⟨va_K.moved hW.alike h.1, h.2.warm hW⟩
theorem KK.calling {G : GG} {U : State} {a : Array Value} {g : JFrame} {mk : MethodId} (h : KK G U) : KK G (U.calling g mk a) := ⟨va_K.moved (u := U) (U := U.calling g mk a) (Vm.Alike.refl U.vm) h.1, h.2.same rfl⟩
/-! REGIONS: cells side by side from an address on, of a fixed layout; what they hold of ints is a function -/
abbrev KD : Type := Nat ⊕ (Nat × List (Option Nat))
abbrev Mem : Type := Nat → Nat → Int32
def up (γ : Mem) (k f : Nat) (v : Int32) : Mem := fun k' => if k' = k then upd (γ k) f v else γ k'
theorem up_s (γ : Mem) (k f : Nat) (v : Int32) : up γ k f v k = upd (γ k) f v := if_pos rfl
theorem up_n (γ : Mem) {k j : Nat} (f : Nat) (v : Int32) (h : j ≠ k) : up γ k f v j = γ j := if_neg h
def rfs (a : Nat) (g : Nat → Int32) : Nat → List (Option Nat) → List Value
  | _, [] => []
  | i, none :: t => .int (g i) :: rfs a g (i + 1) t
  | i, some o :: t => .ref (a + o) :: rfs a g (i + 1) t
theorem rfs_len (a : Nat) (g : Nat → Int32) : ∀ (fs : List (Option Nat)) (i : Nat), (rfs a g i fs).length = fs.length
  | [], _ => rfl
  | none :: t, i => by simp [rfs, rfs_len a g t]
  | some o :: t, i => by simp [rfs, rfs_len a g t]
theorem rfs_int (a : Nat) (g : Nat → Int32) : ∀ (fs : List (Option Nat)) (i f : Nat), fs[f]? = some none → (rfs a g i fs)[f]? = some (.int (g (i + f)))
  | [], _, f, h => by simp at h
  | none :: t, i, 0, _ => by simp [rfs]
  | some o :: t, i, 0, h => by simp at h
  | none :: t, i, f + 1, h => by
    have := rfs_int a g t (i + 1) f (by simpa using h)
    rw [show i + (f + 1) = i + 1 + f by omega]
    simpa [rfs] using this
  | some o :: t, i, f + 1, h => by
    have := rfs_int a g t (i + 1) f (by simpa using h)
    rw [show i + (f + 1) = i + 1 + f by omega]
    simpa [rfs] using this
theorem rfs_ref (a : Nat) (g : Nat → Int32) : ∀ (fs : List (Option Nat)) (i f o : Nat), fs[f]? = some (some o) → (rfs a g i fs)[f]? = some (.ref (a + o))
  | [], _, f, o, h => by simp at h
  | none :: t, i, 0, o, h => by simp at h
  | some o' :: t, i, 0, o, h => by
    have : o' = o := by simpa using h
    subst this
    simp [rfs]
  | none :: t, i, f + 1, o, h => by
    have := rfs_ref a g t (i + 1) f o (by simpa using h)
    simpa [rfs] using this
  | some o' :: t, i, f + 1, o, h => by
    have := rfs_ref a g t (i + 1) f o (by simpa using h)
    simpa [rfs] using this
theorem rfs_cong (a : Nat) {g g' : Nat → Int32} : ∀ (fs : List (Option Nat)) (i : Nat), (∀ j, i ≤ j → g j = g' j) → rfs a g i fs = rfs a g' i fs
  | [], _, _ => rfl
  | none :: t, i, h => by simp [rfs, h i (Nat.le_refl _), rfs_cong a t (i + 1) (fun j hj => h j (by omega))]
  | some o :: t, i, h => by simp [rfs, rfs_cong a t (i + 1) (fun j hj => h j (by omega))]
theorem rfs_set (a : Nat) (g : Nat → Int32) (v : Int32) : ∀ (fs : List (Option Nat)) (i f : Nat), fs[f]? = some none → (rfs a g i fs).set f (.int v) = rfs a (upd g (i + f) v) i fs
  | [], _, f, h => by simp at h
  | none :: t, i, 0, _ => by
    simp only [rfs, List.set_cons_zero, Nat.add_zero]
    rw [show upd g i v i = v from pk_us, rfs_cong a t (i + 1) (fun j hj => (pk_un (f := g) (k := i) (x := v) (by omega)).symm)]
  | some o :: t, i, 0, h => by simp at h
  | none :: t, i, f + 1, h => by
    have e := rfs_set a g v t (i + 1) f (by simpa using h)
    simp only [rfs, List.set_cons_succ]
    rw [e, pk_un (by omega : i ≠ i + (f + 1)), show i + 1 + f = i + (f + 1) by omega]
  | some o :: t, i, f + 1, h => by
    have e := rfs_set a g v t (i + 1) f (by simpa using h)
    simp only [rfs, List.set_cons_succ]
    rw [e, show i + 1 + f = i + (f + 1) by omega]
def rcell (G : GG) (a : Nat) (g : Nat → Int32) : KD → va_E
  | .inl n => .inl (G.2.1, n, .inl g)
  | .inr (ci, fs) => .inr (ci, rfs a g 0 fs)
def rg (G : GG) (L : List KD) (a : Nat) (γ : Mem) (H : Heap) : Prop := ∀ (k : Nat) (kd : KD), L[k]? = some kd → va_at G.1 vwCl (a + k, rcell G a (γ k) kd) H
theorem rg.kept {G : GG} {L : List KD} {a : Nat} {γ : Mem} {H H1 : Heap} (h : rg G L a γ H) (hq : ∀ k, k < L.length → H1[a + k]? = H[a + k]?) : rg G L a γ H1 := fun k kd hk => (h k kd hk).kept (hq k (List.getElem?_eq_some_iff.mp hk).1)
theorem rg.lt {G : GG} {L : List KD} {a : Nat} {γ : Mem} {H : Heap} (h : rg G L a γ H) {k : Nat} (hk : k < L.length) : a + k < H.size := (h k L[k] (List.getElem?_eq_getElem hk)).lt
/-- behind a call that changes nothing of it -/
theorem rg.past {G : GG} {L : List KD} {a : Nat} {γ : Mem} {H H1 : Heap} {A : Nat → Prop} (h : rg G L a γ H) (hq : ∀ q, q < H.size → ¬ A q → H1[q]? = H[q]?) (hA : ∀ k, k < L.length → ¬ A (a + k)) : rg G L a γ H1 := h.kept fun k hk => hq _ (h.lt hk) (hA k hk)
def RA (a n : Nat) : Nat → Prop := fun q => a ≤ q ∧ q < a + n
theorem RA_in {a n k : Nat} (h : k < n) : RA a n (a + k) := ⟨Nat.le_add_right _ _, Nat.add_lt_add_left h _⟩
theorem rg.one {G : GG} {L : List KD} {a : Nat} {γ : Mem} {H : Heap} (h : rg G L a γ H) {k : Nat} {kd : KD} (hk : L[k]? = some kd) : va_P G.1 vwCl [(a + k, rcell G a (γ k) kd)] H := by
  intro i q hq
  cases i with
  | zero => cases hq; exact h k kd hk
  | succ i => simp at hq
/-! a class's field in the class files: link number 'index' in class 'own' is field f of class ci -/
def FL (own : String) (index ci f : Nat) : Prop := ∃ (C : String) (T : u_T) (N : Nat), vwCl[ci]? = some (C, T, N) ∧ (∀ w ∈ u_ws C T N, w ∈ BIG) ∧ f < N ∧ Cond.fieldLink own index C (T f).2.1 (T f).2.2.1 ∈ BIG ∧ (T f).1 = C
def FP (ci f : Nat) (ty : FieldType) : Prop := ∃ (C : String) (T : u_T) (N : Nat) (ty0 : Nat → FieldType), vwCl[ci]? = some (C, T, N) ∧ (∀ k, k < N → parseFieldDescriptor (T k).2.2.1 = some (ty0 k)) ∧ (∀ a, a < N → ∀ b, b < N → a ≠ b → (T a).2.1 ≠ (T b).2.1) ∧ f < N ∧ (T f).2.2.2 = false ∧ parseFieldDescriptor (T f).2.2.1 = some ty
/-! a method in the class files -/
def MW (y : MethodName) (bytes : ByteArray) (maxL : Nat) (ret : Option FieldType) (n : Nat) : Prop := Cond.code y bytes maxL ret ∈ BIG ∧ Cond.initialized y.cls ∈ BIG ∧ (y.cls ≠ "java/lang/invoke/MethodHandle" ∧ y.cls ≠ "java/lang/invoke/VarHandle" ∧ (parseMethodDescriptor y.desc).map (fun d => d.parameters.length) = some n)
/-- an instance method -/
def MI (y : MethodName) : Prop := Cond.instanceMethod y ∈ BIG ∧ Cond.selects y.cls y y ∈ BIG
def CX (p : Program) (m : MethodId) (meth : Method) (c : Code) (s : State) (args : Array Value) (cc : ByteArray) (own : String) (nL : Nat) : Prop := p.tables.exec = Jvm.exec ∧ c.code = cc ∧ c.maxLocals = nL ∧ s.vm.findClass own = some m.cls ∧ (∀ w ∈ BIG, w.before args s = true) ∧ meth.locks = false
/-! contracts: P what the heap holds at the start, P' at the end, A which old cells may change -/
def CtI (l : Launch) (y : MethodName) (bytes : ByteArray) (maxL : Nat) (ret : Option FieldType) (rm : Room) (av : List Value) (G : GG) {S : Type} (P : Heap → Prop) (post : Int32 → S → Prop) (P' : S → Heap → Prop) (A : Nat → Prop) : Prop :=
  Met l y (Cond.code y bytes maxL ret :: BIG) rm (va_Pc av (fun U => P U.heap ∧ KK G U)) (va_Qi post (fun u t => P' u t.heap ∧ KK G t) A) 0 0 A
def CtV (l : Launch) (y : MethodName) (bytes : ByteArray) (maxL : Nat) (rm : Room) (av : List Value) (G : GG) {S : Type} (P : Heap → Prop) (post : S → Prop) (P' : S → Heap → Prop) (A : Nat → Prop) : Prop :=
  Met l y (Cond.code y bytes maxL none :: BIG) rm (va_Pc av (fun U => P U.heap ∧ KK G U)) (va_Qv post (fun u t => P' u t.heap ∧ KK G t) A) 0 0 A
theorem met_start {l : Launch} {y : MethodName} {cc : ByteArray} {maxL : Nat} {ret : Option FieldType} {rm : Room} {av : List Value} {G : GG} {P : Heap → Prop} {Qc : Array Value → State → Outcome → State → Prop} {A : Nat → Prop} {own : String} (hy : plainName y.cls = true) (hown : y.cls = own) (hsl : (lg_sl av).length ≤ maxL)
    (body : ∀ (p : Program) (e : Env) (s : State) (m : MethodId) (below : List Frame) (meth : Method) (c : Code) (ls : Array Slot), CX p m meth c s av.toArray cc own maxL → meth.sig.returnType = ret → P s.heap → KK G s → lv_has ls maxL (lv_args 0 av) → W p l e rm s m av.toArray below meth c s.heap [] 0 0 (MQ below Qc av.toArray s 0 0 A) (F0 m 0 ls [])) :
    Met l y (Cond.code y cc maxL ret :: BIG) rm (va_Pc av (fun U => P U.heap ∧ KK G U)) Qc 0 0 A := by
  refine Met.ofW (cc := cc) (maxL := maxL) (ret := ret) hy rfl ?_
  intro p e s m args below meth c s₁ B hml hv
  obtain ⟨rfl, hP, hK⟩ := hv
  have hts := atoms_spec (ws := Cond.code y cc maxL ret :: BIG) B.pre
  have hl := lv_entry av (n := maxL) hsl
  rw [lg_entry_eq]
  subst hown
  exact body p e s m below meth c _ ⟨B.exec, B.bytes, hml, findClass_of_methodNamed B.named, fun w hw => hts w (List.mem_cons_of_mem _ hw), B.notSynchronized⟩ B.returns hP hK hl
section RG
variable {p : Program} {l : Launch} {e : Env} {R : Room} {s : State} {m : MethodId} {args : Array Value} {below : List Frame} {meth : Method} {c : Code} {H : Heap} {locs : List Loc} {cells slots : Nat} {Q : State → Prop}
variable {cc : ByteArray} {own : String} {nL pc : Nat} {ls : Array Slot} {rest : List Value} {G : GG} {A : Nat → Prop} {L : List KD} {a : Nat} {γ : Mem} {H0 : Heap}
theorem g_getI (C : CX p m meth c s args cc own nL) (hK : KK G s) (hG : rg G L a γ H) {index ci f k : Nat} {fs : List (Option Nat)} (hF : FL own index ci f) (hk : L[k]? = some (.inr (ci, fs))) (hf : fs[f]? = some none) (hdg : decode cc pc = .ok (.getfield index, 3))
    (kk : W p l e R s m args below meth c H locs cells slots Q (F0 m (pc + 3) ls (.int (γ k f) :: rest))) : W p l e R s m args below meth c H locs cells slots Q (F0 m pc ls (.ref (a + k) :: rest)) := by
  obtain ⟨hx, hb, hml, hown, hts, -⟩ := C
  obtain ⟨C0, T, N, hc, hin, hfN, hlink, hsame⟩ := hF
  refine va_get (ref := C0) (ws := [(a + k, rcell G a (γ k) (.inr (ci, fs)))]) hx hb hts hin hown hK.1 (hG.one hk) 0 rfl hc f hfN (hts _ hlink) (fun x h => by rw [hsame] at h; exact h) (v := .int (γ k f)) ?_ hdg kk
  have := rfs_int a (γ k) fs 0 f hf
  rwa [Nat.zero_add] at this
theorem g_getR (C : CX p m meth c s args cc own nL) (hK : KK G s) (hG : rg G L a γ H) {index ci f k o : Nat} {fs : List (Option Nat)} (hF : FL own index ci f) (hk : L[k]? = some (.inr (ci, fs))) (hf : fs[f]? = some (some o)) (hdg : decode cc pc = .ok (.getfield index, 3))
    (kk : W p l e R s m args below meth c H locs cells slots Q (F0 m (pc + 3) ls (.ref (a + o) :: rest))) : W p l e R s m args below meth c H locs cells slots Q (F0 m pc ls (.ref (a + k) :: rest)) := by
  obtain ⟨hx, hb, hml, hown, hts, -⟩ := C
  obtain ⟨C0, T, N, hc, hin, hfN, hlink, hsame⟩ := hF
  exact va_get (ref := C0) (ws := [(a + k, rcell G a (γ k) (.inr (ci, fs)))]) hx hb hts hin hown hK.1 (hG.one hk) 0 rfl hc f hfN (hts _ hlink) (fun x h => by rw [hsame] at h; exact h) (v := .ref (a + o)) (rfs_ref a (γ k) fs 0 f o hf) hdg kk
theorem rg.put {k f : Nat} {fs : List (Option Nat)} {ci : Nat} {v : Int32} {H1 : Heap} (hG : rg G L a γ H) (hk : L[k]? = some (.inr (ci, fs))) (hf : fs[f]? = some none) (he : va_at G.1 vwCl (a + k, .inr (ci, (rfs a (γ k) 0 fs).set f (.int v))) H1) (oq : ∀ q, q ≠ a + k → H1[q]? = H[q]?) : rg G L a (up γ k f v) H1 := by
  intro j kd hj
  by_cases hjk : j = k
  · subst hjk
    rw [hk] at hj
    cases hj
    rw [up_s]
    rw [rfs_set a (γ j) v fs 0 f hf, Nat.zero_add] at he
    exact he
  · rw [up_n γ f v hjk]
    exact (hG j kd hj).kept (oq _ (fun q => hjk (Nat.add_left_cancel q)))
theorem g_put (C : CX p m meth c s args cc own nL) (hK : KK G s) (hG : rg G L a γ H) (hS : va_S A H0 H locs) {index ci f k : Nat} {fs : List (Option Nat)} {ty : FieldType} {v : Int32} (hF : FL own index ci f) (hFP : FP ci f ty) (hk : L[k]? = some (.inr (ci, fs))) (hf : fs[f]? = some none) (hn : narrow ty (.int v) = .int v) (hfit : fits ty (.int v) = true) (hA : A (a + k)) (hdg : decode cc pc = .ok (.putfield index, 3))
    (kk : ∀ (γ1 : Mem) (H1 : Heap) (locs1 : List Loc), γ1 = up γ k f v → rg G L a γ1 H1 → va_S A H0 H1 locs1 → (∀ q, q ≠ a + k → H1[q]? = H[q]?) → W p l e R s m args below meth c H1 locs1 cells slots Q (F0 m (pc + 3) ls rest)) : W p l e R s m args below meth c H locs cells slots Q (F0 m pc ls (.int v :: .ref (a + k) :: rest)) := by
  obtain ⟨hx, hb, hml, hown, hts, -⟩ := C
  obtain ⟨C0, T, N, hc, hin, hfN, hlink, hsame⟩ := hF
  obtain ⟨C1, T1, N1, ty0, hc1, hty, hnm, -, hfin, hd⟩ := hFP
  cases hc.symm.trans hc1
  have hap := va_apart (own := own) hts hin ty0 hty hnm hK.1 hc
  obtain ⟨r, h1, cell, q1, q2, q3, q4⟩ := hG k _ hk
  cases h1.symm.trans hc
  obtain ⟨hSl, hfc, kC, hkC, hkind⟩ := hK.1.1 ci _ hc
  obtain ⟨cf, kf, fi, fd, hi, hsl⟩ := hSl f hfN
  have hlay := hts _ (hin _ (u_in_lay hfN))
  unfold u_lay at hlay
  rw [if_neg (by rw [hfin]; decide)] at hlay
  have hst := (u_facts hfc hkC (u_lays hts hin hfN) hi).1
  have h6 := u_store hfc hkC hkind hlay hi hd hn hfit
  have hi' := hi
  rw [hsame] at hi'
  refine W.putK hx hb (f := fd) ⟨hown, hts _ hlink, ⟨_, _, _, hi'⟩, hst⟩ (by rw [q2]; exact h6) q1 q3 (by rw [hsl]; exact k2_hasslot (q4 f hfN)) rfl rfl hdg fun H' e1 e2 e3 => ?_
  rw [hsl] at e1 ⊢
  have hl : f < (rfs a (γ k) 0 fs).length := by rw [rfs_len]; exact (List.getElem?_eq_some_iff.mp hf).1
  exact kk _ H' _ rfl (hG.put hk hf ⟨_, hc, t_OB.to (V := updV (vp_V (rfs a (γ k) 0 fs)) f (.int v)) ⟨_, e1, q2, q3, t_set q4 hap hfN (.int v)⟩ (fun j _ => vp_updV_set hl (.int v) j)⟩ e3) (hS.put e2 e3 hA) e3
theorem g_ald (C : CX p m meth c s args cc own nL) (hK : KK G s) (hG : rg G L a γ H) {k n : Nat} {i : Int32} (hk : L[k]? = some (.inl n)) (hin : vp_in i n) (hdg : decode cc pc = .ok (.iaload, 1))
    (kk : W p l e R s m args below meth c H locs cells slots Q (F0 m (pc + 1) ls (.int (γ k i.toNatClampNeg) :: rest))) : W p l e R s m args below meth c H locs cells slots Q (F0 m pc ls (.int i :: .ref (a + k) :: rest)) := by
  obtain ⟨hx, hb, hml, hown, hts, -⟩ := C
  exact va_iald hx hb hK.1 (hG.one hk) 0 0 rfl rfl hin hdg kk
theorem g_len (C : CX p m meth c s args cc own nL) (hK : KK G s) (hG : rg G L a γ H) {k n : Nat} {v : Int32} (hk : L[k]? = some (.inl n)) (hv : Int32.ofNat n = v) (hdg : decode cc pc = .ok (.arraylength, 1))
    (kk : W p l e R s m args below meth c H locs cells slots Q (F0 m (pc + 1) ls (.int v :: rest))) : W p l e R s m args below meth c H locs cells slots Q (F0 m pc ls (.ref (a + k) :: rest)) := by
  obtain ⟨hx, hb, hml, hown, hts, -⟩ := C
  exact va_alen hx hb hK.1 (hG.one hk) 0 0 (x := (n, .inl (γ k))) rfl (ty := .int) rfl hv hdg kk
theorem rg.ast {k n i : Nat} {v : Int32} {H1 : Heap} (hG : rg G L a γ H) (hk : L[k]? = some (.inl n)) (he : H1[a + k]? = some (vp_cell G.2.1 (n, .inl (upd (γ k) i v)))) (oq : ∀ q, q ≠ a + k → H1[q]? = H[q]?) : rg G L a (up γ k i v) H1 := by
  intro j kd hj
  by_cases hjk : j = k
  · subst hjk
    rw [hk] at hj
    cases hj
    rw [up_s]
    exact he
  · rw [up_n γ i v hjk]
    exact (hG j kd hj).kept (oq _ (fun q => hjk (Nat.add_left_cancel q)))
theorem g_ast (C : CX p m meth c s args cc own nL) (hK : KK G s) (hG : rg G L a γ H) (hS : va_S A H0 H locs) {k n : Nat} {i v : Int32} (hk : L[k]? = some (.inl n)) (hin : vp_in i n) (hA : A (a + k)) (hdg : decode cc pc = .ok (.iastore, 1))
    (kk : ∀ (γ1 : Mem) (H1 : Heap) (locs1 : List Loc), γ1 = up γ k i.toNatClampNeg v → rg G L a γ1 H1 → va_S A H0 H1 locs1 → (∀ q, q ≠ a + k → H1[q]? = H[q]?) → W p l e R s m args below meth c H1 locs1 cells slots Q (F0 m (pc + 1) ls rest)) : W p l e R s m args below meth c H locs cells slots Q (F0 m pc ls (.int v :: .int i :: .ref (a + k) :: rest)) := by
  obtain ⟨hx, hb, hml, hown, hts, -⟩ := C
  have hc : H[a + k]? = some (vp_cell G.2.1 (n, .inl (γ k))) := hG k _ hk
  refine W.iast hx hb hc ((hK.1.2 0 _ rfl).1 n (fun j => .int (γ k j))) (fun q => by cases q) (by show ¬ (i < 0 ∨ (arrV _ _ _).slots.size ≤ _); rw [arrV_size]; exact hin) rfl rfl hdg fun H1 e z oq => ?_
  refine kk _ H1 _ rfl (hG.ast hk ?_ oq) (hS.put z oq hA) oq
  rw [e, vp_cell_i, vp_cell_i, arrV_store]
  congr 2
  funext q
  by_cases hq : q = i.toNatClampNeg
  · subst hq
    simp [updV, upd]
  · simp [updV, upd, hq]
theorem g_recv {k ci : Nat} {fs : List (Option Nat)} {C' : String} {T : u_T} {N : Nat} (hK : KK G s) (hG : rg G L a γ H) (hk : L[k]? = some (.inr (ci, fs))) (hc : vwCl[ci]? = some (C', T, N)) : ∃ cell : Cell, H[a + k]? = some cell ∧ cell.vm.isStatics = false ∧ s.vm.findClass C' = some cell.cls :=
  va_recv (ws := [(a + k, rcell G a (γ k) (.inr (ci, fs)))]) (q := (C', T, N)) hK.1 (hG.one hk) hc (q0 := 0) rfl
/-! calls -/
theorem g_cw {y : MethodName} {bytes : ByteArray} {maxL n index : Nat} {ret : Option FieldType} {rm : Room} (C : CX p m meth c s args cc own nL) (hw : MW y bytes maxL ret n) (hl : (Cond.methodLink own index y) ∈ BIG) (hrm : rm.cells = 0 ∧ rm.slots = 0 ∧ rm.frames + 1 ≤ R.frames ∧ 8 + (maxL + 11) + rm.locals ≤ R.locals) : CallB R s args own index y bytes maxL ret (Cond.code y bytes maxL ret :: BIG) rm 0 0 n := by
  obtain ⟨hx, hb, hml, hown, hts, -⟩ := C
  obtain ⟨h1, h2, h3⟩ := hw
  exact callB_of n hts (big_good (fun w hw => by rcases List.mem_cons.mp hw with rfl | h; exact h1; exact h)) rfl hrm.1 hrm.2.1 (hts _ h2) (hts _ hl) h3 hrm.2.2
theorem g_cn {y : MethodName} {bytes : ByteArray} {maxL n index : Nat} {ret : Option FieldType} {rm : Room} {host : String} (C : CX p m meth c s args cc own nL) (hK : KK G s) (hw : MW y bytes maxL ret n) (hl : (own, index, y, host) ∈ nwl) (hrm : rm.cells = 0 ∧ rm.slots = 0 ∧ rm.frames + 1 ≤ R.frames ∧ 8 + (maxL + 11) + rm.locals ≤ R.locals) : va_CN R s args own index y host bytes maxL ret (Cond.code y bytes maxL ret :: BIG) rm 0 0 n := by
  obtain ⟨hx, hb, hml, hown, hts, -⟩ := C
  obtain ⟨h1, h2, h3⟩ := hw
  exact va_cnB n hts (big_good (fun w hw => by rcases List.mem_cons.mp hw with rfl | h; exact h1; exact h)) rfl hrm.1 hrm.2.1 (hK.2 _ hl) (hts _ h2) h3 hrm.2.2
theorem g_blind {G : GG} {P : Heap → Prop} {av : List Value} : FrameBlind (va_Pc av (fun U => P U.heap ∧ KK G U)) := fun a U g mk q => ⟨q.1, q.2.1, q.2.2.calling⟩
theorem g_pre {P : Heap → Prop} {av : List Value} (hK : KK G s) (hP : P H) : ∀ U : State, U.heap = H → s.WarmedH U.vm → va_Pc av (fun U => P U.heap ∧ KK G U) av.toArray U := fun U hU hW => ⟨rfl, by rw [hU]; exact hP, hK.warm hW⟩
section CALLS
variable {y : MethodName} {bytes : ByteArray} {maxL n index : Nat} {ret : Option FieldType} {rm : Room} {S : Type} {P : Heap → Prop} {P' : S → Heap → Prop} {A1 : Nat → Prop} {b : Addr} {As : List Value} {stk : List Value}
/-- invokevirtual of a method that answers an int -/
theorem g_vI {post : Int32 → S → Prop} (C : CX p m meth c s args cc own nL) (hK : KK G s) (hls : ls.size = nL) (hM : CtI l y bytes maxL ret rm (.ref b :: As) G P post P' A1) (hw : MW y bytes maxL ret n) (hi : MI y) (hl : (Cond.methodLink own index y) ∈ BIG) (hn : As.length = n) (hrm : rm.cells = 0 ∧ rm.slots = 0 ∧ rm.frames + 1 ≤ R.frames ∧ 8 + (maxL + 11) + rm.locals ≤ R.locals) (hcs : cells ≤ R.cells ∧ slots ≤ R.slots) (hrecv : ∃ cell : Cell, H[b]? = some cell ∧ cell.vm.isStatics = false ∧ s.vm.findClass y.cls = some cell.cls) (hP : P H) (hS : va_S A H0 H locs) (hA : ∀ q, A1 q → A q) (hst : stk = As.reverse ++ .ref b :: rest) (hrest : (rest.map fun v => v.category).sum ≤ 8) (hdg : decode cc pc = .ok (.invokevirtual index, 3))
    (kk : ∀ (r : Int32) (u : S) (H1 : Heap) (locs1 : List Loc), post r u → P' u H1 → H.size ≤ H1.size → (∀ q, q < H.size → ¬ A1 q → H1[q]? = H[q]?) → va_S A H0 H1 locs1 → W p l e R s m args below meth c H1 locs1 cells slots Q (F0 m (pc + 3) ls (.int r :: rest))) : W p l e R s m args below meth c H locs cells slots Q (F0 m pc ls stk) := by
  have C' := C
  obtain ⟨hx, hb, hml, hown, hts, -⟩ := C
  exact va_calli (va_runV (nL := nL) (Ts := BIG) (C := y.cls) (As := As) (rest := rest) ⟨hx, hb, hml, hown, hts⟩ hM ⟨g_cw C' hw hl hrm, hts _ hi.1, hts _ hi.2⟩ ⟨g_blind, hrecv, g_pre hK hP⟩ rfl hn hls hst (lv_room hrest) hdg hcs) hS (fun q _ h => hA q h) hA (fun r u t H1 locs1 ht hvm hq hB hz hk hS => kk r u H1 locs1 hq (by rw [← ht]; exact hB.1) hz hk hS)
theorem g_vV {post : S → Prop} (C : CX p m meth c s args cc own nL) (hK : KK G s) (hls : ls.size = nL) (hM : CtV l y bytes maxL rm (.ref b :: As) G P post P' A1) (hw : MW y bytes maxL none n) (hi : MI y) (hl : (Cond.methodLink own index y) ∈ BIG) (hn : As.length = n) (hrm : rm.cells = 0 ∧ rm.slots = 0 ∧ rm.frames + 1 ≤ R.frames ∧ 8 + (maxL + 11) + rm.locals ≤ R.locals) (hcs : cells ≤ R.cells ∧ slots ≤ R.slots) (hrecv : ∃ cell : Cell, H[b]? = some cell ∧ cell.vm.isStatics = false ∧ s.vm.findClass y.cls = some cell.cls) (hP : P H) (hS : va_S A H0 H locs) (hA : ∀ q, A1 q → A q) (hst : stk = As.reverse ++ .ref b :: rest) (hrest : (rest.map fun v => v.category).sum ≤ 8) (hdg : decode cc pc = .ok (.invokevirtual index, 3))
    (kk : ∀ (u : S) (H1 : Heap) (locs1 : List Loc), post u → P' u H1 → H.size ≤ H1.size → (∀ q, q < H.size → ¬ A1 q → H1[q]? = H[q]?) → va_S A H0 H1 locs1 → W p l e R s m args below meth c H1 locs1 cells slots Q (F0 m (pc + 3) ls rest)) : W p l e R s m args below meth c H locs cells slots Q (F0 m pc ls stk) := by
  have C' := C
  obtain ⟨hx, hb, hml, hown, hts, -⟩ := C
  exact va_callv (va_runV (nL := nL) (Ts := BIG) (C := y.cls) (As := As) (rest := rest) ⟨hx, hb, hml, hown, hts⟩ hM ⟨g_cw C' hw hl hrm, hts _ hi.1, hts _ hi.2⟩ ⟨g_blind, hrecv, g_pre hK hP⟩ rfl hn hls hst (lv_room hrest) hdg hcs) hS (fun q _ h => hA q h) hA (fun u t H1 locs1 ht hvm hq hB hz hk hS => kk u H1 locs1 hq (by rw [← ht]; exact hB.1) hz hk hS)
theorem g_sI {post : Int32 → S → Prop} (C : CX p m meth c s args cc own nL) (hK : KK G s) (hls : ls.size = nL) (hM : CtI l y bytes maxL ret rm As G P post P' A1) (hw : MW y bytes maxL ret n) (hi : Cond.static y ∈ BIG) (hl : (Cond.methodLink own index y) ∈ BIG) (hn : As.length = n) (hrm : rm.cells = 0 ∧ rm.slots = 0 ∧ rm.frames + 1 ≤ R.frames ∧ 8 + (maxL + 11) + rm.locals ≤ R.locals) (hcs : cells ≤ R.cells ∧ slots ≤ R.slots) (hP : P H) (hS : va_S A H0 H locs) (hA : ∀ q, A1 q → A q) (hst : stk = As.reverse ++ rest) (hrest : (rest.map fun v => v.category).sum ≤ 8) (hdg : decode cc pc = .ok (.invokestatic index, 3))
    (kk : ∀ (r : Int32) (u : S) (H1 : Heap) (locs1 : List Loc), post r u → P' u H1 → H.size ≤ H1.size → (∀ q, q < H.size → ¬ A1 q → H1[q]? = H[q]?) → va_S A H0 H1 locs1 → W p l e R s m args below meth c H1 locs1 cells slots Q (F0 m (pc + 3) ls (.int r :: rest))) : W p l e R s m args below meth c H locs cells slots Q (F0 m pc ls stk) := by
  have C' := C
  obtain ⟨hx, hb, hml, hown, hts, -⟩ := C
  exact va_calli (va_runS (nL := nL) (Ts := BIG) (As := As) (rest := rest) ⟨hx, hb, hml, hown, hts⟩ hM ⟨g_cw C' hw hl hrm, hts _ hi⟩ ⟨g_blind, g_pre hK hP⟩ rfl hn hls hst (lv_room hrest) hdg hcs) hS (fun q _ h => hA q h) hA (fun r u t H1 locs1 ht hvm hq hB hz hk hS => kk r u H1 locs1 hq (by rw [← ht]; exact hB.1) hz hk hS)
theorem g_sV {post : S → Prop} (C : CX p m meth c s args cc own nL) (hK : KK G s) (hls : ls.size = nL) (hM : CtV l y bytes maxL rm As G P post P' A1) (hw : MW y bytes maxL none n) (hi : Cond.static y ∈ BIG) (hl : (Cond.methodLink own index y) ∈ BIG) (hn : As.length = n) (hrm : rm.cells = 0 ∧ rm.slots = 0 ∧ rm.frames + 1 ≤ R.frames ∧ 8 + (maxL + 11) + rm.locals ≤ R.locals) (hcs : cells ≤ R.cells ∧ slots ≤ R.slots) (hP : P H) (hS : va_S A H0 H locs) (hA : ∀ q, A1 q → A q) (hst : stk = As.reverse ++ rest) (hrest : (rest.map fun v => v.category).sum ≤ 8) (hdg : decode cc pc = .ok (.invokestatic index, 3))
    (kk : ∀ (u : S) (H1 : Heap) (locs1 : List Loc), post u → P' u H1 → H.size ≤ H1.size → (∀ q, q < H.size → ¬ A1 q → H1[q]? = H[q]?) → va_S A H0 H1 locs1 → W p l e R s m args below meth c H1 locs1 cells slots Q (F0 m (pc + 3) ls rest)) : W p l e R s m args below meth c H locs cells slots Q (F0 m pc ls stk) := by
  have C' := C
  obtain ⟨hx, hb, hml, hown, hts, -⟩ := C
  exact va_callv (va_runS (nL := nL) (Ts := BIG) (As := As) (rest := rest) ⟨hx, hb, hml, hown, hts⟩ hM ⟨g_cw C' hw hl hrm, hts _ hi⟩ ⟨g_blind, g_pre hK hP⟩ rfl hn hls hst (lv_room hrest) hdg hcs) hS (fun q _ h => hA q h) hA (fun u t H1 locs1 ht hvm hq hB hz hk hS => kk u H1 locs1 hq (by rw [← ht]; exact hB.1) hz hk hS)
theorem g_nI {post : Int32 → S → Prop} {host : String} (C : CX p m meth c s args cc own nL) (hK : KK G s) (hls : ls.size = nL) (hM : CtI l y bytes maxL ret rm As G P post P' A1) (hw : MW y bytes maxL ret n) (hi : Cond.static y ∈ BIG) (hl : (own, index, y, host) ∈ nwl) (hn : As.length = n) (hrm : rm.cells = 0 ∧ rm.slots = 0 ∧ rm.frames + 1 ≤ R.frames ∧ 8 + (maxL + 11) + rm.locals ≤ R.locals) (hcs : cells ≤ R.cells ∧ slots ≤ R.slots) (hP : P H) (hS : va_S A H0 H locs) (hA : ∀ q, A1 q → A q) (hst : stk = As.reverse ++ rest) (hrest : (rest.map fun v => v.category).sum ≤ 8) (hdg : decode cc pc = .ok (.invokestatic index, 3))
    (kk : ∀ (r : Int32) (u : S) (H1 : Heap) (locs1 : List Loc), post r u → P' u H1 → H.size ≤ H1.size → (∀ q, q < H.size → ¬ A1 q → H1[q]? = H[q]?) → va_S A H0 H1 locs1 → W p l e R s m args below meth c H1 locs1 cells slots Q (F0 m (pc + 3) ls (.int r :: rest))) : W p l e R s m args below meth c H locs cells slots Q (F0 m pc ls stk) := by
  have C' := C
  obtain ⟨hx, hb, hml, hown, hts, -⟩ := C
  exact va_calli (va_runSN (nL := nL) (Ts := BIG) (As := As) (rest := rest) ⟨hx, hb, hml, hown, hts⟩ hM ⟨g_cn C' hK hw hl hrm, hts _ hi, trivial⟩ ⟨g_blind, g_pre hK hP⟩ rfl hn hls hst (lv_room hrest) hdg hcs) hS (fun q _ h => hA q h) hA (fun r u t H1 locs1 ht hvm hq hB hz hk hS => kk r u H1 locs1 hq (by rw [← ht]; exact hB.1) hz hk hS)
theorem g_nV {post : S → Prop} {host : String} (C : CX p m meth c s args cc own nL) (hK : KK G s) (hls : ls.size = nL) (hM : CtV l y bytes maxL rm As G P post P' A1) (hw : MW y bytes maxL none n) (hi : Cond.static y ∈ BIG) (hl : (own, index, y, host) ∈ nwl) (hn : As.length = n) (hrm : rm.cells = 0 ∧ rm.slots = 0 ∧ rm.frames + 1 ≤ R.frames ∧ 8 + (maxL + 11) + rm.locals ≤ R.locals) (hcs : cells ≤ R.cells ∧ slots ≤ R.slots) (hP : P H) (hS : va_S A H0 H locs) (hA : ∀ q, A1 q → A q) (hst : stk = As.reverse ++ rest) (hrest : (rest.map fun v => v.category).sum ≤ 8) (hdg : decode cc pc = .ok (.invokestatic index, 3))
    (kk : ∀ (u : S) (H1 : Heap) (locs1 : List Loc), post u → P' u H1 → H.size ≤ H1.size → (∀ q, q < H.size → ¬ A1 q → H1[q]? = H[q]?) → va_S A H0 H1 locs1 → W p l e R s m args below meth c H1 locs1 cells slots Q (F0 m (pc + 3) ls rest)) : W p l e R s m args below meth c H locs cells slots Q (F0 m pc ls stk) := by
  have C' := C
  obtain ⟨hx, hb, hml, hown, hts, -⟩ := C
  exact va_callv (va_runSN (nL := nL) (Ts := BIG) (As := As) (rest := rest) ⟨hx, hb, hml, hown, hts⟩ hM ⟨g_cn C' hK hw hl hrm, hts _ hi, trivial⟩ ⟨g_blind, g_pre hK hP⟩ rfl hn hls hst (lv_room hrest) hdg hcs) hS (fun q _ h => hA q h) hA (fun u t H1 locs1 ht hvm hq hB hz hk hS => kk u H1 locs1 hq (by rw [← ht]; exact hB.1) hz hk hS)
end CALLS
/-! ends -/
theorem g_iret {S : Type} {post : Int32 → S → Prop} {P' : S → Heap → Prop} {r : Int32} {u : S} (C : CX p m meth c s args cc own nL) (hr : meth.sig.returnType = some .int) (hK : KK G s) (hS : va_S A s.heap H locs) (hq : post r u) (hP : P' u H) (hdg : decode cc pc = .ok (.ireturn, 1)) : W p l e R s m args below meth c H locs cells slots (MQ below (va_Qi post (fun u t => P' u t.heap ∧ KK G t) A) args s cells slots A) (F0 m pc ls [.int r]) := by
  obtain ⟨hx, hb, hml, hown, hts, hlocks⟩ := C
  exact W.iret hx hb hr (fun t ht hW => ⟨⟨r, u, rfl, hq, by rw [ht]; exact hP, hK.warm hW⟩, hS.F ht⟩) hS.2.2 hdg hlocks
theorem g_zret {S : Type} {post : Int32 → S → Prop} {P' : S → Heap → Prop} {r : Int32} {u : S} (C : CX p m meth c s args cc own nL) (hr : meth.sig.returnType = some .boolean) (hK : KK G s) (hS : va_S A s.heap H locs) (hn : narrow .boolean (.int r) = .int r) (hq : post r u) (hP : P' u H) (hdg : decode cc pc = .ok (.ireturn, 1)) : W p l e R s m args below meth c H locs cells slots (MQ below (va_Qi post (fun u t => P' u t.heap ∧ KK G t) A) args s cells slots A) (F0 m pc ls [.int r]) := by
  obtain ⟨hx, hb, hml, hown, hts, hlocks⟩ := C
  exact W.zret hx hb hr hn (fun t ht hW => ⟨⟨r, u, rfl, hq, by rw [ht]; exact hP, hK.warm hW⟩, hS.F ht⟩) hS.2.2 hdg hlocks
theorem g_vret {S : Type} {post : S → Prop} {P' : S → Heap → Prop} {u : S} (C : CX p m meth c s args cc own nL) (hr : meth.sig.returnType = none) (hK : KK G s) (hS : va_S A s.heap H locs) (hq : post u) (hP : P' u H) (hdg : decode cc pc = .ok (.return_, 1)) : W p l e R s m args below meth c H locs cells slots (MQ below (va_Qv post (fun u t => P' u t.heap ∧ KK G t) A) args s cells slots A) (F0 m pc ls []) := by
  obtain ⟨hx, hb, hml, hown, hts, hlocks⟩ := C
  exact W.vret hx hb hr (fun t ht hW => ⟨⟨u, rfl, hq, by rw [ht]; exact hP, hK.warm hW⟩, hS.F ht⟩) hS.2.2 hdg hlocks
theorem g_ldc (C : CX p m meth c s args cc own nL) {index : Nat} {v : Int32} (hw : Cond.constant own index v ∈ BIG) (hdg : decode cc pc = .ok (.ldc index, 2)) (k : W p l e R s m args below meth c H locs cells slots Q (F0 m (pc + 2) ls (.int v :: rest))) : W p l e R s m args below meth c H locs cells slots Q (F0 m pc ls rest) := by
  obtain ⟨hx, hb, hml, hown, hts, -⟩ := C
  exact lv_ldc hx hb hown (hts _ hw) hdg k
theorem g_ldcw (C : CX p m meth c s args cc own nL) {index : Nat} {v : Int32} (hw : Cond.constant own index v ∈ BIG) (hdg : decode cc pc = .ok (.ldc_w index, 3)) (k : W p l e R s m args below meth c H locs cells slots Q (F0 m (pc + 3) ls (.int v :: rest))) : W p l e R s m args below meth c H locs cells slots Q (F0 m pc ls rest) := by
  obtain ⟨hx, hb, hml, hown, hts, -⟩ := C
  exact lv_ldcw hx hb hown (hts _ hw) hdg k
end RG
theorem vp_dec {i : Int32} {n : Nat} (h : ¬ (i < 0 ∨ n ≤ i.toNatClampNeg)) : vp_in i n := h
end
section
def LG : List KD := [.inr (1, [none, some 1, some 4, some 12, some 18, some 21, none]), .inr (5, [none, none, some 2, some 3]), .inl 12, .inl 4, .inr (2, [none, some 5, some 6, some 7, some 8, some 9, some 10, some 11]), .inl 12, .inl 12, .inl 12, .inl 12, .inl 12, .inl 12, .inl 12, .inr (6, [none, some 13, some 14, some 15, some 16, some 17]), .inl 8, .inl 8, .inl 8, .inl 8, .inl 8, .inr (0, [none, some 19, some 20]), .inl 6, .inl 6, .inl 12]
def LO : List KD := [.inr (4, [none, none, none, none, none, none, some 1, some 2]), .inl 60, .inl 4]
def LM : List KD := [.inr (8, [some 1, some 2, some 3, some 4, none, none, some 5, none, some 6, none, none, none, none, none, none, none, some 7]), .inl 164, .inl 656, .inl 164, .inl 164, .inl 60, .inl 12, .inl 4]
def LX : List KD := [.inr (7, [some 1, some 23, some 45, some 135])]
def LH : List KD := [.inr (3, [none, some 1])]
set_option maxRecDepth 20000 in
theorem inB0 : ∀ w ∈ u_ws RX0 TX0 3, w ∈ BIG := fun w hw => big_of (List.mem_append_right _ (List.elem_iff.mp (List.all_eq_true.mp (show (u_ws RX0 TX0 3).all (fun w => tables_1.elem w) = true by decide +kernel) w hw))) (List.all_eq_true.mp (show (u_ws RX0 TX0 3).all goodWord = true by decide +kernel) w hw)
theorem fp_X0_0 : FP 0 0 .int := ⟨RX0, TX0, 3, tyX0, rfl, tyX0_ok, nmX0, by decide, rfl, by decide +kernel⟩
set_option maxRecDepth 20000 in
theorem inB1 : ∀ w ∈ u_ws RX1 TX1 7, w ∈ BIG := fun w hw => big_of (List.mem_append_right _ (List.elem_iff.mp (List.all_eq_true.mp (show (u_ws RX1 TX1 7).all (fun w => tables_1.elem w) = true by decide +kernel) w hw))) (List.all_eq_true.mp (show (u_ws RX1 TX1 7).all goodWord = true by decide +kernel) w hw)
theorem fp_X1_0 : FP 1 0 .int := ⟨RX1, TX1, 7, tyX1, rfl, tyX1_ok, nmX1, by decide, rfl, by decide +kernel⟩
theorem fp_X1_6 : FP 1 6 .int := ⟨RX1, TX1, 7, tyX1, rfl, tyX1_ok, nmX1, by decide, rfl, by decide +kernel⟩
set_option maxRecDepth 20000 in
theorem inB2 : ∀ w ∈ u_ws RX2 TX2 8, w ∈ BIG := fun w hw => big_of (List.mem_append_right _ (List.elem_iff.mp (List.all_eq_true.mp (show (u_ws RX2 TX2 8).all (fun w => tables_1.elem w) = true by decide +kernel) w hw))) (List.all_eq_true.mp (show (u_ws RX2 TX2 8).all goodWord = true by decide +kernel) w hw)
theorem fp_X2_0 : FP 2 0 .int := ⟨RX2, TX2, 8, tyX2, rfl, tyX2_ok, nmX2, by decide, rfl, by decide +kernel⟩
set_option maxRecDepth 20000 in
theorem inB3 : ∀ w ∈ u_ws RX3 TX3 2, w ∈ BIG := fun w hw => big_of (List.mem_append_right _ (List.elem_iff.mp (List.all_eq_true.mp (show (u_ws RX3 TX3 2).all (fun w => tables_1.elem w) = true by decide +kernel) w hw))) (List.all_eq_true.mp (show (u_ws RX3 TX3 2).all goodWord = true by decide +kernel) w hw)
theorem fp_X3_0 : FP 3 0 .int := ⟨RX3, TX3, 2, tyX3, rfl, tyX3_ok, nmX3, by decide, rfl, by decide +kernel⟩
set_option maxRecDepth 20000 in
theorem inB4 : ∀ w ∈ u_ws RX4 TX4 8, w ∈ BIG := fun w hw => big_of (List.mem_append_right _ (List.elem_iff.mp (List.all_eq_true.mp (show (u_ws RX4 TX4 8).all (fun w => tables_1.elem w) = true by decide +kernel) w hw))) (List.all_eq_true.mp (show (u_ws RX4 TX4 8).all goodWord = true by decide +kernel) w hw)
theorem fp_X4_0 : FP 4 0 .int := ⟨RX4, TX4, 8, tyX4, rfl, tyX4_ok, nmX4, by decide, rfl, by decide +kernel⟩
theorem fp_X4_1 : FP 4 1 .int := ⟨RX4, TX4, 8, tyX4, rfl, tyX4_ok, nmX4, by decide, rfl, by decide +kernel⟩
theorem fp_X4_2 : FP 4 2 .int := ⟨RX4, TX4, 8, tyX4, rfl, tyX4_ok, nmX4, by decide, rfl, by decide +kernel⟩
theorem fp_X4_3 : FP 4 3 .int := ⟨RX4, TX4, 8, tyX4, rfl, tyX4_ok, nmX4, by decide, rfl, by decide +kernel⟩
theorem fp_X4_4 : FP 4 4 .int := ⟨RX4, TX4, 8, tyX4, rfl, tyX4_ok, nmX4, by decide, rfl, by decide +kernel⟩
theorem fp_X4_5 : FP 4 5 .int := ⟨RX4, TX4, 8, tyX4, rfl, tyX4_ok, nmX4, by decide, rfl, by decide +kernel⟩
set_option maxRecDepth 20000 in
theorem inB5 : ∀ w ∈ u_ws RX5 TX5 4, w ∈ BIG := fun w hw => big_of (List.mem_append_right _ (List.elem_iff.mp (List.all_eq_true.mp (show (u_ws RX5 TX5 4).all (fun w => tables_1.elem w) = true by decide +kernel) w hw))) (List.all_eq_true.mp (show (u_ws RX5 TX5 4).all goodWord = true by decide +kernel) w hw)
theorem fp_X5_0 : FP 5 0 .int := ⟨RX5, TX5, 4, tyX5, rfl, tyX5_ok, nmX5, by decide, rfl, by decide +kernel⟩
theorem fp_X5_1 : FP 5 1 .int := ⟨RX5, TX5, 4, tyX5, rfl, tyX5_ok, nmX5, by decide, rfl, by decide +kernel⟩
set_option maxRecDepth 20000 in
theorem inB6 : ∀ w ∈ u_ws RX6 TX6 6, w ∈ BIG := fun w hw => big_of (List.mem_append_right _ (List.elem_iff.mp (List.all_eq_true.mp (show (u_ws RX6 TX6 6).all (fun w => tables_1.elem w) = true by decide +kernel) w hw))) (List.all_eq_true.mp (show (u_ws RX6 TX6 6).all goodWord = true by decide +kernel) w hw)
theorem fp_X6_0 : FP 6 0 .int := ⟨RX6, TX6, 6, tyX6, rfl, tyX6_ok, nmX6, by decide, rfl, by decide +kernel⟩
set_option maxRecDepth 20000 in
theorem inB7 : ∀ w ∈ u_ws RX7 TX7 4, w ∈ BIG := fun w hw => big_of (List.mem_append_right _ (List.elem_iff.mp (List.all_eq_true.mp (show (u_ws RX7 TX7 4).all (fun w => tables_1.elem w) = true by decide +kernel) w hw))) (List.all_eq_true.mp (show (u_ws RX7 TX7 4).all goodWord = true by decide +kernel) w hw)
set_option maxRecDepth 20000 in
theorem inB8 : ∀ w ∈ u_ws RX8 TX8 17, w ∈ BIG := fun w hw => big_of (List.mem_append_right _ (List.elem_iff.mp (List.all_eq_true.mp (show (u_ws RX8 TX8 17).all (fun w => tables_1.elem w) = true by decide +kernel) w hw))) (List.all_eq_true.mp (show (u_ws RX8 TX8 17).all goodWord = true by decide +kernel) w hw)
theorem fp_X8_4 : FP 8 4 .int := ⟨RX8, TX8, 17, tyX8, rfl, tyX8_ok, nmX8, by decide, rfl, by decide +kernel⟩
theorem fp_X8_5 : FP 8 5 .boolean := ⟨RX8, TX8, 17, tyX8, rfl, tyX8_ok, nmX8, by decide, rfl, by decide +kernel⟩
theorem fp_X8_7 : FP 8 7 .int := ⟨RX8, TX8, 17, tyX8, rfl, tyX8_ok, nmX8, by decide, rfl, by decide +kernel⟩
theorem fp_X8_9 : FP 8 9 .int := ⟨RX8, TX8, 17, tyX8, rfl, tyX8_ok, nmX8, by decide, rfl, by decide +kernel⟩
theorem fp_X8_10 : FP 8 10 .int := ⟨RX8, TX8, 17, tyX8, rfl, tyX8_ok, nmX8, by decide, rfl, by decide +kernel⟩
theorem fp_X8_11 : FP 8 11 .int := ⟨RX8, TX8, 17, tyX8, rfl, tyX8_ok, nmX8, by decide, rfl, by decide +kernel⟩
theorem fp_X8_12 : FP 8 12 .int := ⟨RX8, TX8, 17, tyX8, rfl, tyX8_ok, nmX8, by decide, rfl, by decide +kernel⟩
theorem fp_X8_13 : FP 8 13 .int := ⟨RX8, TX8, 17, tyX8, rfl, tyX8_ok, nmX8, by decide, rfl, by decide +kernel⟩
theorem fp_X8_14 : FP 8 14 .int := ⟨RX8, TX8, 17, tyX8, rfl, tyX8_ok, nmX8, by decide, rfl, by decide +kernel⟩
theorem fp_X8_15 : FP 8 15 .int := ⟨RX8, TX8, 17, tyX8, rfl, tyX8_ok, nmX8, by decide, rfl, by decide +kernel⟩
theorem fl_X7_12 : FL RX7 12 7 0 := ⟨RX7, TX7, 4, rfl, inB7, by decide, big_1 (i := 233) (by rfl) rfl, rfl⟩
theorem fl_X7_16 : FL RX7 16 7 1 := ⟨RX7, TX7, 4, rfl, inB7, by decide, big_1 (i := 234) (by rfl) rfl, rfl⟩
theorem fl_X7_22 : FL RX7 22 7 2 := ⟨RX7, TX7, 4, rfl, inB7, by decide, big_1 (i := 235) (by rfl) rfl, rfl⟩
theorem fl_X7_29 : FL RX7 29 7 3 := ⟨RX7, TX7, 4, rfl, inB7, by decide, big_1 (i := 236) (by rfl) rfl, rfl⟩
theorem fl_X7_80 : FL RX7 80 1 1 := ⟨RX1, TX1, 7, rfl, inB1, by decide, big_1 (i := 156) (by rfl) rfl, rfl⟩
theorem fl_X7_84 : FL RX7 84 5 3 := ⟨RX5, TX5, 4, rfl, inB5, by decide, big_1 (i := 40) (by rfl) rfl, rfl⟩
theorem fl_X7_90 : FL RX7 90 1 2 := ⟨RX1, TX1, 7, rfl, inB1, by decide, big_1 (i := 158) (by rfl) rfl, rfl⟩
theorem fl_X7_118 : FL RX7 118 2 1 := ⟨RX2, TX2, 8, rfl, inB2, by decide, big_1 (i := 61) (by rfl) rfl, rfl⟩
theorem fl_X7_121 : FL RX7 121 2 2 := ⟨RX2, TX2, 8, rfl, inB2, by decide, big_1 (i := 64) (by rfl) rfl, rfl⟩
theorem fl_X7_125 : FL RX7 125 2 3 := ⟨RX2, TX2, 8, rfl, inB2, by decide, big_1 (i := 66) (by rfl) rfl, rfl⟩
theorem fl_X7_128 : FL RX7 128 2 5 := ⟨RX2, TX2, 8, rfl, inB2, by decide, big_1 (i := 70) (by rfl) rfl, rfl⟩
theorem fl_X7_131 : FL RX7 131 2 6 := ⟨RX2, TX2, 8, rfl, inB2, by decide, big_1 (i := 73) (by rfl) rfl, rfl⟩
theorem fl_X7_134 : FL RX7 134 2 7 := ⟨RX2, TX2, 8, rfl, inB2, by decide, big_1 (i := 76) (by rfl) rfl, rfl⟩
theorem fl_X7_140 : FL RX7 140 1 3 := ⟨RX1, TX1, 7, rfl, inB1, by decide, big_1 (i := 160) (by rfl) rfl, rfl⟩
theorem fl_X7_144 : FL RX7 144 6 1 := ⟨RX6, TX6, 6, rfl, inB6, by decide, big_1 (i := 105) (by rfl) rfl, rfl⟩
theorem fl_X7_149 : FL RX7 149 6 2 := ⟨RX6, TX6, 6, rfl, inB6, by decide, big_1 (i := 108) (by rfl) rfl, rfl⟩
theorem fl_X7_152 : FL RX7 152 6 3 := ⟨RX6, TX6, 6, rfl, inB6, by decide, big_1 (i := 111) (by rfl) rfl, rfl⟩
theorem fl_X7_155 : FL RX7 155 6 4 := ⟨RX6, TX6, 6, rfl, inB6, by decide, big_1 (i := 114) (by rfl) rfl, rfl⟩
theorem fl_X7_161 : FL RX7 161 6 5 := ⟨RX6, TX6, 6, rfl, inB6, by decide, big_1 (i := 116) (by rfl) rfl, rfl⟩
theorem fl_X7_171 : FL RX7 171 1 4 := ⟨RX1, TX1, 7, rfl, inB1, by decide, big_1 (i := 162) (by rfl) rfl, rfl⟩
theorem fl_X7_175 : FL RX7 175 0 1 := ⟨RX0, TX0, 3, rfl, inB0, by decide, big_1 (i := 142) (by rfl) rfl, rfl⟩
theorem fl_X7_180 : FL RX7 180 0 2 := ⟨RX0, TX0, 3, rfl, inB0, by decide, big_1 (i := 145) (by rfl) rfl, rfl⟩
theorem fl_X7_203 : FL RX7 203 1 0 := ⟨RX1, TX1, 7, rfl, inB1, by decide, big_1 (i := 154) (by rfl) rfl, rfl⟩
theorem fl_X7_211 : FL RX7 211 5 0 := ⟨RX5, TX5, 4, rfl, inB5, by decide, big_1 (i := 35) (by rfl) rfl, rfl⟩
theorem fl_X7_214 : FL RX7 214 6 0 := ⟨RX6, TX6, 6, rfl, inB6, by decide, big_1 (i := 102) (by rfl) rfl, rfl⟩
theorem fl_X7_215 : FL RX7 215 0 0 := ⟨RX0, TX0, 3, rfl, inB0, by decide, big_1 (i := 139) (by rfl) rfl, rfl⟩
theorem fl_X7_225 : FL RX7 225 5 1 := ⟨RX5, TX5, 4, rfl, inB5, by decide, big_1 (i := 37) (by rfl) rfl, rfl⟩
theorem fl_X7_228 : FL RX7 228 3 0 := ⟨RX3, TX3, 2, rfl, inB3, by decide, big_1 (i := 190) (by rfl) rfl, rfl⟩
theorem fl_X7_229 : FL RX7 229 4 0 := ⟨RX4, TX4, 8, rfl, inB4, by decide, big_1 (i := 204) (by rfl) rfl, rfl⟩
theorem fl_X7_246 : FL RX7 246 4 2 := ⟨RX4, TX4, 8, rfl, inB4, by decide, big_1 (i := 208) (by rfl) rfl, rfl⟩
theorem fl_X7_249 : FL RX7 249 4 3 := ⟨RX4, TX4, 8, rfl, inB4, by decide, big_1 (i := 210) (by rfl) rfl, rfl⟩
theorem fl_X7_252 : FL RX7 252 4 4 := ⟨RX4, TX4, 8, rfl, inB4, by decide, big_1 (i := 212) (by rfl) rfl, rfl⟩
theorem fl_X7_255 : FL RX7 255 4 1 := ⟨RX4, TX4, 8, rfl, inB4, by decide, big_1 (i := 206) (by rfl) rfl, rfl⟩
theorem fl_X0_9 : FL RX0 9 0 1 := ⟨RX0, TX0, 3, rfl, inB0, by decide, big_1 (i := 140) (by rfl) rfl, rfl⟩
theorem fl_X0_15 : FL RX0 15 0 2 := ⟨RX0, TX0, 3, rfl, inB0, by decide, big_1 (i := 143) (by rfl) rfl, rfl⟩
theorem fl_X0_18 : FL RX0 18 0 0 := ⟨RX0, TX0, 3, rfl, inB0, by decide, big_1 (i := 137) (by rfl) rfl, rfl⟩
theorem fl_X1_12 : FL RX1 12 1 1 := ⟨RX1, TX1, 7, rfl, inB1, by decide, big_1 (i := 155) (by rfl) rfl, rfl⟩
theorem fl_X1_21 : FL RX1 21 1 2 := ⟨RX1, TX1, 7, rfl, inB1, by decide, big_1 (i := 157) (by rfl) rfl, rfl⟩
theorem fl_X1_28 : FL RX1 28 1 3 := ⟨RX1, TX1, 7, rfl, inB1, by decide, big_1 (i := 159) (by rfl) rfl, rfl⟩
theorem fl_X1_35 : FL RX1 35 1 4 := ⟨RX1, TX1, 7, rfl, inB1, by decide, big_1 (i := 161) (by rfl) rfl, rfl⟩
theorem fl_X1_39 : FL RX1 39 1 5 := ⟨RX1, TX1, 7, rfl, inB1, by decide, big_1 (i := 163) (by rfl) rfl, rfl⟩
theorem fl_X1_43 : FL RX1 43 1 0 := ⟨RX1, TX1, 7, rfl, inB1, by decide, big_1 (i := 153) (by rfl) rfl, rfl⟩
theorem fl_X1_60 : FL RX1 60 5 0 := ⟨RX5, TX5, 4, rfl, inB5, by decide, big_1 (i := 34) (by rfl) rfl, rfl⟩
theorem fl_X1_71 : FL RX1 71 6 0 := ⟨RX6, TX6, 6, rfl, inB6, by decide, big_1 (i := 101) (by rfl) rfl, rfl⟩
theorem fl_X1_72 : FL RX1 72 0 0 := ⟨RX0, TX0, 3, rfl, inB0, by decide, big_1 (i := 138) (by rfl) rfl, rfl⟩
theorem fl_X1_87 : FL RX1 87 2 1 := ⟨RX2, TX2, 8, rfl, inB2, by decide, big_1 (i := 60) (by rfl) rfl, rfl⟩
theorem fl_X1_90 : FL RX1 90 6 1 := ⟨RX6, TX6, 6, rfl, inB6, by decide, big_1 (i := 104) (by rfl) rfl, rfl⟩
theorem fl_X1_93 : FL RX1 93 6 2 := ⟨RX6, TX6, 6, rfl, inB6, by decide, big_1 (i := 107) (by rfl) rfl, rfl⟩
theorem fl_X1_96 : FL RX1 96 6 3 := ⟨RX6, TX6, 6, rfl, inB6, by decide, big_1 (i := 110) (by rfl) rfl, rfl⟩
theorem fl_X1_99 : FL RX1 99 6 4 := ⟨RX6, TX6, 6, rfl, inB6, by decide, big_1 (i := 113) (by rfl) rfl, rfl⟩
theorem fl_X1_102 : FL RX1 102 0 1 := ⟨RX0, TX0, 3, rfl, inB0, by decide, big_1 (i := 141) (by rfl) rfl, rfl⟩
theorem fl_X1_105 : FL RX1 105 0 2 := ⟨RX0, TX0, 3, rfl, inB0, by decide, big_1 (i := 144) (by rfl) rfl, rfl⟩
theorem fl_X1_112 : FL RX1 112 2 2 := ⟨RX2, TX2, 8, rfl, inB2, by decide, big_1 (i := 63) (by rfl) rfl, rfl⟩
theorem fl_X1_148 : FL RX1 148 2 3 := ⟨RX2, TX2, 8, rfl, inB2, by decide, big_1 (i := 67) (by rfl) rfl, rfl⟩
theorem fl_X1_154 : FL RX1 154 5 3 := ⟨RX5, TX5, 4, rfl, inB5, by decide, big_1 (i := 41) (by rfl) rfl, rfl⟩
theorem fl_X1_172 : FL RX1 172 2 6 := ⟨RX2, TX2, 8, rfl, inB2, by decide, big_1 (i := 74) (by rfl) rfl, rfl⟩
theorem fl_X1_175 : FL RX1 175 1 6 := ⟨RX1, TX1, 7, rfl, inB1, by decide, big_1 (i := 164) (by rfl) rfl, rfl⟩
theorem fl_X1_178 : FL RX1 178 2 5 := ⟨RX2, TX2, 8, rfl, inB2, by decide, big_1 (i := 71) (by rfl) rfl, rfl⟩
theorem fl_X1_181 : FL RX1 181 6 5 := ⟨RX6, TX6, 6, rfl, inB6, by decide, big_1 (i := 117) (by rfl) rfl, rfl⟩
theorem fl_X2_9 : FL RX2 9 2 1 := ⟨RX2, TX2, 8, rfl, inB2, by decide, big_1 (i := 59) (by rfl) rfl, rfl⟩
theorem fl_X2_15 : FL RX2 15 2 2 := ⟨RX2, TX2, 8, rfl, inB2, by decide, big_1 (i := 62) (by rfl) rfl, rfl⟩
theorem fl_X2_18 : FL RX2 18 2 3 := ⟨RX2, TX2, 8, rfl, inB2, by decide, big_1 (i := 65) (by rfl) rfl, rfl⟩
theorem fl_X2_21 : FL RX2 21 2 4 := ⟨RX2, TX2, 8, rfl, inB2, by decide, big_1 (i := 68) (by rfl) rfl, rfl⟩
theorem fl_X2_24 : FL RX2 24 2 5 := ⟨RX2, TX2, 8, rfl, inB2, by decide, big_1 (i := 69) (by rfl) rfl, rfl⟩
theorem fl_X2_27 : FL RX2 27 2 6 := ⟨RX2, TX2, 8, rfl, inB2, by decide, big_1 (i := 72) (by rfl) rfl, rfl⟩
theorem fl_X2_30 : FL RX2 30 2 7 := ⟨RX2, TX2, 8, rfl, inB2, by decide, big_1 (i := 75) (by rfl) rfl, rfl⟩
theorem fl_X2_33 : FL RX2 33 2 0 := ⟨RX2, TX2, 8, rfl, inB2, by decide, big_1 (i := 58) (by rfl) rfl, rfl⟩
theorem fl_X3_11 : FL RX3 11 3 1 := ⟨RX3, TX3, 2, rfl, inB3, by decide, big_1 (i := 191) (by rfl) rfl, rfl⟩
theorem fl_X3_18 : FL RX3 18 3 0 := ⟨RX3, TX3, 2, rfl, inB3, by decide, big_1 (i := 189) (by rfl) rfl, rfl⟩
theorem fl_X4_9 : FL RX4 9 4 6 := ⟨RX4, TX4, 8, rfl, inB4, by decide, big_1 (i := 214) (by rfl) rfl, rfl⟩
theorem fl_X4_15 : FL RX4 15 4 7 := ⟨RX4, TX4, 8, rfl, inB4, by decide, big_1 (i := 215) (by rfl) rfl, rfl⟩
theorem fl_X4_18 : FL RX4 18 4 0 := ⟨RX4, TX4, 8, rfl, inB4, by decide, big_1 (i := 203) (by rfl) rfl, rfl⟩
theorem fl_X4_23 : FL RX4 23 4 1 := ⟨RX4, TX4, 8, rfl, inB4, by decide, big_1 (i := 205) (by rfl) rfl, rfl⟩
theorem fl_X4_26 : FL RX4 26 4 5 := ⟨RX4, TX4, 8, rfl, inB4, by decide, big_1 (i := 213) (by rfl) rfl, rfl⟩
theorem fl_X4_29 : FL RX4 29 4 2 := ⟨RX4, TX4, 8, rfl, inB4, by decide, big_1 (i := 207) (by rfl) rfl, rfl⟩
theorem fl_X4_36 : FL RX4 36 4 3 := ⟨RX4, TX4, 8, rfl, inB4, by decide, big_1 (i := 209) (by rfl) rfl, rfl⟩
theorem fl_X4_39 : FL RX4 39 4 4 := ⟨RX4, TX4, 8, rfl, inB4, by decide, big_1 (i := 211) (by rfl) rfl, rfl⟩
theorem fl_X5_9 : FL RX5 9 5 2 := ⟨RX5, TX5, 4, rfl, inB5, by decide, big_1 (i := 38) (by rfl) rfl, rfl⟩
theorem fl_X5_15 : FL RX5 15 5 3 := ⟨RX5, TX5, 4, rfl, inB5, by decide, big_1 (i := 39) (by rfl) rfl, rfl⟩
theorem fl_X5_18 : FL RX5 18 5 0 := ⟨RX5, TX5, 4, rfl, inB5, by decide, big_1 (i := 33) (by rfl) rfl, rfl⟩
theorem fl_X5_22 : FL RX5 22 5 1 := ⟨RX5, TX5, 4, rfl, inB5, by decide, big_1 (i := 36) (by rfl) rfl, rfl⟩
theorem fl_X6_9 : FL RX6 9 6 1 := ⟨RX6, TX6, 6, rfl, inB6, by decide, big_1 (i := 103) (by rfl) rfl, rfl⟩
theorem fl_X6_15 : FL RX6 15 6 2 := ⟨RX6, TX6, 6, rfl, inB6, by decide, big_1 (i := 106) (by rfl) rfl, rfl⟩
theorem fl_X6_18 : FL RX6 18 6 3 := ⟨RX6, TX6, 6, rfl, inB6, by decide, big_1 (i := 109) (by rfl) rfl, rfl⟩
theorem fl_X6_21 : FL RX6 21 6 4 := ⟨RX6, TX6, 6, rfl, inB6, by decide, big_1 (i := 112) (by rfl) rfl, rfl⟩
theorem fl_X6_24 : FL RX6 24 6 5 := ⟨RX6, TX6, 6, rfl, inB6, by decide, big_1 (i := 115) (by rfl) rfl, rfl⟩
theorem fl_X6_27 : FL RX6 27 6 0 := ⟨RX6, TX6, 6, rfl, inB6, by decide, big_1 (i := 100) (by rfl) rfl, rfl⟩
theorem fl_X8_7 : FL RX8 7 8 0 := ⟨RX8, TX8, 17, rfl, inB8, by decide, big_3 (i := 212) (by rfl) rfl, rfl⟩
theorem fl_X8_13 : FL RX8 13 8 1 := ⟨RX8, TX8, 17, rfl, inB8, by decide, big_3 (i := 213) (by rfl) rfl, rfl⟩
theorem fl_X8_16 : FL RX8 16 8 2 := ⟨RX8, TX8, 17, rfl, inB8, by decide, big_3 (i := 214) (by rfl) rfl, rfl⟩
theorem fl_X8_19 : FL RX8 19 8 3 := ⟨RX8, TX8, 17, rfl, inB8, by decide, big_3 (i := 215) (by rfl) rfl, rfl⟩
theorem fl_X8_22 : FL RX8 22 8 6 := ⟨RX8, TX8, 17, rfl, inB8, by decide, big_3 (i := 218) (by rfl) rfl, rfl⟩
theorem fl_X8_25 : FL RX8 25 8 8 := ⟨RX8, TX8, 17, rfl, inB8, by decide, big_3 (i := 220) (by rfl) rfl, rfl⟩
theorem fl_X8_28 : FL RX8 28 8 16 := ⟨RX8, TX8, 17, rfl, inB8, by decide, big_3 (i := 228) (by rfl) rfl, rfl⟩
theorem fl_X8_31 : FL RX8 31 8 4 := ⟨RX8, TX8, 17, rfl, inB8, by decide, big_3 (i := 216) (by rfl) rfl, rfl⟩
theorem fl_X8_35 : FL RX8 35 8 5 := ⟨RX8, TX8, 17, rfl, inB8, by decide, big_3 (i := 217) (by rfl) rfl, rfl⟩
theorem fl_X8_91 : FL RX8 91 8 9 := ⟨RX8, TX8, 17, rfl, inB8, by decide, big_3 (i := 221) (by rfl) rfl, rfl⟩
theorem fl_X8_146 : FL RX8 146 8 7 := ⟨RX8, TX8, 17, rfl, inB8, by decide, big_3 (i := 219) (by rfl) rfl, rfl⟩
theorem fl_X8_149 : FL RX8 149 8 10 := ⟨RX8, TX8, 17, rfl, inB8, by decide, big_3 (i := 222) (by rfl) rfl, rfl⟩
theorem fl_X8_155 : FL RX8 155 8 15 := ⟨RX8, TX8, 17, rfl, inB8, by decide, big_3 (i := 227) (by rfl) rfl, rfl⟩
theorem fl_X8_187 : FL RX8 187 8 11 := ⟨RX8, TX8, 17, rfl, inB8, by decide, big_3 (i := 223) (by rfl) rfl, rfl⟩
theorem fl_X8_190 : FL RX8 190 8 14 := ⟨RX8, TX8, 17, rfl, inB8, by decide, big_3 (i := 226) (by rfl) rfl, rfl⟩
theorem fl_X8_199 : FL RX8 199 8 12 := ⟨RX8, TX8, 17, rfl, inB8, by decide, big_3 (i := 224) (by rfl) rfl, rfl⟩
theorem fl_X8_202 : FL RX8 202 8 13 := ⟨RX8, TX8, 17, rfl, inB8, by decide, big_3 (i := 225) (by rfl) rfl, rfl⟩
theorem ml_X7_11 : Cond.methodLink RX7 11 yX1_init ∈ BIG := big_1 (i := 23) (by rfl) rfl
theorem ml_X7_21 : Cond.methodLink RX7 21 yX3_init ∈ BIG := big_1 (i := 182) (by rfl) rfl
theorem ml_X7_28 : Cond.methodLink RX7 28 yX4_init ∈ BIG := big_1 (i := 199) (by rfl) rfl
theorem ml_X7_33 : Cond.methodLink RX7 33 yX7_startTrial ∈ BIG := big_2 (i := 10) (by rfl) rfl
theorem ml_X7_36 : Cond.methodLink RX7 36 yX1_addPlayer ∈ BIG := big_2 (i := 46) (by rfl) rfl
theorem ml_X7_40 : Cond.methodLink RX7 40 yX7_keepTrial ∈ BIG := big_2 (i := 51) (by rfl) rfl
theorem ml_X7_44 : Cond.methodLink RX7 44 yX1_setSize ∈ BIG := big_2 (i := 68) (by rfl) rfl
theorem ml_X7_48 : Cond.methodLink RX7 48 yX1_addTask ∈ BIG := big_2 (i := 96) (by rfl) rfl
theorem ml_X7_52 : Cond.methodLink RX7 52 yX1_layContract ∈ BIG := big_2 (i := 104) (by rfl) rfl
theorem ml_X7_56 : Cond.methodLink RX7 56 yX1_putWorker ∈ BIG := big_2 (i := 112) (by rfl) rfl
theorem ml_X7_59 : Cond.methodLink RX7 59 yX1_takeHome ∈ BIG := big_2 (i := 158) (by rfl) rfl
theorem ml_X7_62 : Cond.methodLink RX7 62 yX1_flipByHand ∈ BIG := big_2 (i := 166) (by rfl) rfl
theorem ml_X7_65 : Cond.methodLink RX7 65 yX1_buyContract ∈ BIG := big_2 (i := 195) (by rfl) rfl
theorem ml_X7_68 : Cond.methodLink RX7 68 yX1_letPass ∈ BIG := big_2 (i := 211) (by rfl) rfl
theorem ml_X7_71 : Cond.methodLink RX7 71 yX1_hasPlayer ∈ BIG := big_2 (i := 237) (by rfl) rfl
theorem ml_X7_75 : Cond.methodLink RX7 75 yX7_within ∈ BIG := big_2 (i := 238) (by rfl) rfl
theorem ml_X7_94 : Cond.methodLink RX7 94 yX2_worksOf ∈ BIG := big_3 (i := 0) (by rfl) rfl
theorem ml_X7_99 : Cond.methodLink RX7 99 yX2_outOf ∈ BIG := big_3 (i := 8) (by rfl) rfl
theorem ml_X7_102 : Cond.methodLink RX7 102 yX2_waitingOf ∈ BIG := big_3 (i := 12) (by rfl) rfl
theorem ml_X7_105 : Cond.methodLink RX7 105 yX1_untilOneIsOut ∈ BIG := big_3 (i := 16) (by rfl) rfl
theorem ml_X7_108 : Cond.methodLink RX7 108 yX5_amountOf ∈ BIG := big_3 (i := 23) (by rfl) rfl
theorem ml_X7_111 : Cond.methodLink RX7 111 yX1_hasWorker ∈ BIG := big_3 (i := 28) (by rfl) rfl
theorem ml_X7_115 : Cond.methodLink RX7 115 yX7_glassOf ∈ BIG := big_3 (i := 29) (by rfl) rfl
theorem ml_X7_137 : Cond.methodLink RX7 137 yX1_hasTask ∈ BIG := big_3 (i := 35) (by rfl) rfl
theorem ml_X7_158 : Cond.methodLink RX7 158 yX1_placesLeft ∈ BIG := big_3 (i := 36) (by rfl) rfl
theorem ml_X7_162 : Cond.methodLink RX7 162 yX2_atPlace ∈ BIG := big_3 (i := 41) (by rfl) rfl
theorem ml_X7_165 : Cond.methodLink RX7 165 yX7_toldOf ∈ BIG := big_3 (i := 49) (by rfl) rfl
theorem ml_X7_168 : Cond.methodLink RX7 168 yX1_hasContract ∈ BIG := big_3 (i := 57) (by rfl) rfl
theorem ml_X7_181 : Cond.methodLink RX7 181 yX5_allWhoHave ∈ BIG := big_3 (i := 58) (by rfl) rfl
theorem ml_X7_184 : Cond.methodLink RX7 184 yX2_nextOut ∈ BIG := big_3 (i := 67) (by rfl) rfl
theorem ml_X7_187 : Cond.methodLink RX7 187 yX1_advance ∈ BIG := big_3 (i := 72) (by rfl) rfl
theorem ml_X7_190 : Cond.methodLink RX7 190 yX2_isOut ∈ BIG := big_3 (i := 77) (by rfl) rfl
theorem ml_X7_194 : Cond.methodLink RX7 194 yX1_bestTask ∈ BIG := big_3 (i := 79) (by rfl) rfl
theorem ml_X7_197 : Cond.methodLink RX7 197 yX6_differenceOf ∈ BIG := big_3 (i := 91) (by rfl) rfl
theorem ml_X7_200 : Cond.methodLink RX7 200 yX1_untilAffordable ∈ BIG := big_3 (i := 96) (by rfl) rfl
theorem ml_X7_207 : Cond.methodLink RX7 207 yX7_bitsOfShare ∈ BIG := big_3 (i := 105) (by rfl) rfl
theorem ml_X7_216 : Cond.methodLink RX7 216 yX2_allWorks ∈ BIG := big_3 (i := 114) (by rfl) rfl
theorem ml_X7_219 : Cond.methodLink RX7 219 yX2_allFlips ∈ BIG := big_3 (i := 121) (by rfl) rfl
theorem ml_X7_222 : Cond.methodLink RX7 222 yX5_ahead ∈ BIG := big_3 (i := 125) (by rfl) rfl
theorem ml_X7_232 : Cond.methodLink RX7 232 yX3_restore ∈ BIG := big_3 (i := 142) (by rfl) rfl
theorem ml_X7_236 : Cond.methodLink RX7 236 yX4_append ∈ BIG := big_3 (i := 151) (by rfl) rfl
theorem ml_X7_239 : Cond.methodLink RX7 239 yX4_clear ∈ BIG := big_3 (i := 160) (by rfl) rfl
theorem ml_X7_242 : Cond.methodLink RX7 242 yX4_obeyAll ∈ BIG := big_3 (i := 168) (by rfl) rfl
theorem ml_X7_258 : Cond.methodLink RX7 258 yX1_copyFrom ∈ BIG := big_2 (i := 14) (by rfl) rfl
theorem ml_X7_262 : Cond.methodLink RX7 262 yX3_record ∈ BIG := big_2 (i := 55) (by rfl) rfl
theorem ml_X7_265 : Cond.methodLink RX7 265 yX7_amountIn ∈ BIG := big_3 (i := 90) (by rfl) rfl
theorem ml_X7_268 : Cond.methodLink RX7 268 yX7_playerWith ∈ BIG := big_3 (i := 52) (by rfl) rfl
theorem ml_X1_11 : Cond.methodLink RX1 11 yX5_init ∈ BIG := big_1 (i := 29) (by rfl) rfl
theorem ml_X1_20 : Cond.methodLink RX1 20 yX2_init ∈ BIG := big_1 (i := 54) (by rfl) rfl
theorem ml_X1_27 : Cond.methodLink RX1 27 yX6_init ∈ BIG := big_1 (i := 96) (by rfl) rfl
theorem ml_X1_34 : Cond.methodLink RX1 34 yX0_init ∈ BIG := big_1 (i := 133) (by rfl) rfl
theorem ml_X1_47 : Cond.methodLink RX1 47 yX5_copyFrom ∈ BIG := big_2 (i := 18) (by rfl) rfl
theorem ml_X1_51 : Cond.methodLink RX1 51 yX2_copyFrom ∈ BIG := big_2 (i := 31) (by rfl) rfl
theorem ml_X1_54 : Cond.methodLink RX1 54 yX6_copyFrom ∈ BIG := big_2 (i := 36) (by rfl) rfl
theorem ml_X1_57 : Cond.methodLink RX1 57 yX0_copyFrom ∈ BIG := big_2 (i := 41) (by rfl) rfl
theorem ml_X1_67 : Cond.methodLink RX1 67 yX1_hasPlayer ∈ BIG := big_2 (i := 76) (by rfl) rfl
theorem ml_X1_74 : Cond.methodLink RX1 74 yX1_hasWorker ∈ BIG := big_2 (i := 72) (by rfl) rfl
theorem ml_X1_83 : Cond.methodLink RX1 83 yX2_isOut ∈ BIG := big_2 (i := 87) (by rfl) rfl
theorem ml_X1_108 : Cond.methodLink RX1 108 yX2_numberOn ∈ BIG := big_2 (i := 128) (by rfl) rfl
theorem ml_X1_115 : Cond.methodLink RX1 115 yX1_placesLeft ∈ BIG := big_2 (i := 124) (by rfl) rfl
theorem ml_X1_121 : Cond.methodLink RX1 121 yX5_have ∈ BIG := big_2 (i := 135) (by rfl) rfl
theorem ml_X1_124 : Cond.methodLink RX1 124 yX1_hasTask ∈ BIG := big_2 (i := 116) (by rfl) rfl
theorem ml_X1_127 : Cond.methodLink RX1 127 yX1_canBePut ∈ BIG := big_2 (i := 120) (by rfl) rfl
theorem ml_X1_130 : Cond.methodLink RX1 130 yX5_pay ∈ BIG := big_2 (i := 146) (by rfl) rfl
theorem ml_X1_134 : Cond.methodLink RX1 134 yX2_start ∈ BIG := big_2 (i := 150) (by rfl) rfl
theorem ml_X1_137 : Cond.methodLink RX1 137 yX2_flipOne ∈ BIG := big_2 (i := 170) (by rfl) rfl
theorem ml_X1_141 : Cond.methodLink RX1 141 yX1_addIfDue ∈ BIG := big_2 (i := 174) (by rfl) rfl
theorem ml_X1_144 : Cond.methodLink RX1 144 yX1_finishDue ∈ BIG := big_2 (i := 178) (by rfl) rfl
theorem ml_X1_151 : Cond.methodLink RX1 151 yX1_hasContract ∈ BIG := big_2 (i := 199) (by rfl) rfl
theorem ml_X1_155 : Cond.methodLink RX1 155 yX0_remove ∈ BIG := big_2 (i := 203) (by rfl) rfl
theorem ml_X1_158 : Cond.methodLink RX1 158 yX1_advance ∈ BIG := big_2 (i := 215) (by rfl) rfl
theorem ml_X1_161 : Cond.methodLink RX1 161 yX2_untilNextOut ∈ BIG := big_2 (i := 219) (by rfl) rfl
theorem ml_X1_182 : Cond.methodLink RX1 182 yX5_gain ∈ BIG := big_2 (i := 182) (by rfl) rfl
theorem ml_X1_184 : Cond.methodLink RX1 184 yX1_takeEffect ∈ BIG := big_2 (i := 187) (by rfl) rfl
theorem ml_X1_187 : Cond.methodLink RX1 187 yX2_outOf ∈ BIG := big_3 (i := 20) (by rfl) rfl
theorem ml_X1_191 : Cond.methodLink RX1 191 yX2_worksOf ∈ BIG := big_3 (i := 22) (by rfl) rfl
theorem ml_X1_194 : Cond.methodLink RX1 194 yX6_differenceOf ∈ BIG := big_3 (i := 83) (by rfl) rfl
theorem ml_X1_197 : Cond.methodLink RX1 197 yX1_putWorker ∈ BIG := big_3 (i := 100) (by rfl) rfl
theorem ml_X2_41 : Cond.methodLink RX2 41 yX2_aheadOnTask ∈ BIG := big_3 (i := 45) (by rfl) rfl
theorem ml_X2_45 : Cond.methodLink RX2 45 yX2_isOut ∈ BIG := big_2 (i := 227) (by rfl) rfl
theorem ml_X2_49 : Cond.methodLink RX2 49 yX2_nextOut ∈ BIG := big_2 (i := 223) (by rfl) rfl
theorem ml_X2_58 : Cond.methodLink RX2 58 yX2_sumOf ∈ BIG := big_3 (i := 4) (by rfl) rfl
theorem ml_X2_62 : Cond.methodLink RX2 62 yX2_sumOfAll ∈ BIG := big_3 (i := 118) (by rfl) rfl
theorem ml_X3_17 : Cond.methodLink RX3 17 yX1_init ∈ BIG := big_1 (i := 188) (by rfl) rfl
theorem ml_X3_22 : Cond.methodLink RX3 22 yX3_dropOldest ∈ BIG := big_2 (i := 59) (by rfl) rfl
theorem ml_X3_25 : Cond.methodLink RX3 25 yX1_copyFrom ∈ BIG := big_2 (i := 63) (by rfl) rfl
theorem ml_X4_32 : Cond.methodLink RX4 32 yX4_readOrder ∈ BIG := big_3 (i := 172) (by rfl) rfl
theorem ml_X4_42 : Cond.methodLink RX4 42 yX4_signAt ∈ BIG := big_3 (i := 176) (by rfl) rfl
theorem ml_X4_46 : Cond.methodLink RX4 46 yX4_obey ∈ BIG := big_3 (i := 192) (by rfl) rfl
theorem ml_X4_50 : Cond.methodLink RX4 50 yX4_numbersOf ∈ BIG := big_3 (i := 181) (by rfl) rfl
theorem ml_X4_53 : Cond.methodLink RX4 53 yX4_readNumber ∈ BIG := big_3 (i := 184) (by rfl) rfl
theorem ml_X4_57 : Cond.methodLink RX4 57 yX4_readSign ∈ BIG := big_3 (i := 188) (by rfl) rfl
theorem ml_X4_64 : Cond.methodLink RX4 64 yX1_addTask ∈ BIG := big_3 (i := 196) (by rfl) rfl
theorem ml_X4_70 : Cond.methodLink RX4 70 yX1_putWorker ∈ BIG := big_3 (i := 197) (by rfl) rfl
theorem ml_X4_74 : Cond.methodLink RX4 74 yX1_takeHome ∈ BIG := big_3 (i := 198) (by rfl) rfl
theorem ml_X4_78 : Cond.methodLink RX4 78 yX1_layContract ∈ BIG := big_3 (i := 199) (by rfl) rfl
theorem ml_X4_81 : Cond.methodLink RX4 81 yX1_buyContract ∈ BIG := big_3 (i := 200) (by rfl) rfl
theorem ml_X4_84 : Cond.methodLink RX4 84 yX1_letPass ∈ BIG := big_3 (i := 201) (by rfl) rfl
theorem ml_X5_29 : Cond.methodLink RX5 29 yX5_amountOf ∈ BIG := big_2 (i := 139) (by rfl) rfl
theorem ml_X5_36 : Cond.methodLink RX5 36 yX5_have ∈ BIG := big_3 (i := 62) (by rfl) rfl
theorem ml_X5_45 : Cond.methodLink RX5 45 yX5_allGoodsOf ∈ BIG := big_3 (i := 134) (by rfl) rfl
theorem ml_X5_50 : Cond.methodLink RX5 50 yX5_isAheadOf ∈ BIG := big_3 (i := 130) (by rfl) rfl
theorem ml_L_9 : Cond.methodLink RL 9 yX7_init ∈ BIG := big_1 (i := 15) (by rfl) rfl
theorem ml_L_12 : Cond.methodLink RL 12 yX8_init ∈ BIG := big_3 (i := 208) (by rfl) rfl
theorem ml_L_13 : Cond.methodLink RL 13 yX7_player ∈ BIG := big_2 (i := 6) (by rfl) rfl
theorem ml_L_17 : Cond.methodLink RL 17 yX8_player ∈ BIG := big_4 (i := 24) (by rfl) rfl
theorem ml_L_18 : Cond.methodLink RL 18 yX7_size ∈ BIG := big_2 (i := 64) (by rfl) rfl
theorem ml_L_22 : Cond.methodLink RL 22 yX8_size ∈ BIG := big_4 (i := 33) (by rfl) rfl
theorem ml_L_23 : Cond.methodLink RL 23 yX7_task ∈ BIG := big_2 (i := 92) (by rfl) rfl
theorem ml_L_27 : Cond.methodLink RL 27 yX8_task ∈ BIG := big_4 (i := 54) (by rfl) rfl
theorem ml_L_28 : Cond.methodLink RL 28 yX7_contract ∈ BIG := big_2 (i := 100) (by rfl) rfl
theorem ml_L_32 : Cond.methodLink RL 32 yX8_contract ∈ BIG := big_4 (i := 58) (by rfl) rfl
theorem ml_L_33 : Cond.methodLink RL 33 yX7_put ∈ BIG := big_2 (i := 108) (by rfl) rfl
theorem ml_L_36 : Cond.methodLink RL 36 yX8_put ∈ BIG := big_4 (i := 62) (by rfl) rfl
theorem ml_L_37 : Cond.methodLink RL 37 yX7_home ∈ BIG := big_2 (i := 154) (by rfl) rfl
theorem ml_L_40 : Cond.methodLink RL 40 yX8_home ∈ BIG := big_4 (i := 101) (by rfl) rfl
theorem ml_L_41 : Cond.methodLink RL 41 yX7_flip ∈ BIG := big_2 (i := 162) (by rfl) rfl
theorem ml_L_44 : Cond.methodLink RL 44 yX8_flip ∈ BIG := big_4 (i := 105) (by rfl) rfl
theorem ml_L_45 : Cond.methodLink RL 45 yX7_buy ∈ BIG := big_2 (i := 191) (by rfl) rfl
theorem ml_L_48 : Cond.methodLink RL 48 yX8_buy ∈ BIG := big_4 (i := 121) (by rfl) rfl
theorem ml_L_49 : Cond.methodLink RL 49 yX7_pass ∈ BIG := big_2 (i := 207) (by rfl) rfl
theorem ml_L_53 : Cond.methodLink RL 53 yX8_pass ∈ BIG := big_4 (i := 129) (by rfl) rfl
theorem ml_L_54 : Cond.methodLink RL 54 yX7_playerOf ∈ BIG := big_2 (i := 233) (by rfl) rfl
theorem ml_L_57 : Cond.methodLink RL 57 yX8_playerOf ∈ BIG := big_4 (i := 137) (by rfl) rfl
theorem ml_L_58 : Cond.methodLink RL 58 yX7_workerOf ∈ BIG := big_3 (i := 24) (by rfl) rfl
theorem ml_L_61 : Cond.methodLink RL 61 yX8_workerOf ∈ BIG := big_4 (i := 157) (by rfl) rfl
theorem ml_L_62 : Cond.methodLink RL 62 yX7_taskOf ∈ BIG := big_3 (i := 31) (by rfl) rfl
theorem ml_L_65 : Cond.methodLink RL 65 yX8_taskOf ∈ BIG := big_4 (i := 161) (by rfl) rfl
theorem ml_L_66 : Cond.methodLink RL 66 yX7_on ∈ BIG := big_3 (i := 37) (by rfl) rfl
theorem ml_L_69 : Cond.methodLink RL 69 yX8_on ∈ BIG := big_4 (i := 165) (by rfl) rfl
theorem ml_L_70 : Cond.methodLink RL 70 yX7_contractOf ∈ BIG := big_3 (i := 53) (by rfl) rfl
theorem ml_L_73 : Cond.methodLink RL 73 yX8_contractOf ∈ BIG := big_4 (i := 172) (by rfl) rfl
theorem ml_L_74 : Cond.methodLink RL 74 yX7_next ∈ BIG := big_3 (i := 63) (by rfl) rfl
theorem ml_L_77 : Cond.methodLink RL 77 yX8_next ∈ BIG := big_4 (i := 176) (by rfl) rfl
theorem ml_L_78 : Cond.methodLink RL 78 yX7_would ∈ BIG := big_3 (i := 68) (by rfl) rfl
theorem ml_L_81 : Cond.methodLink RL 81 yX8_would ∈ BIG := big_4 (i := 184) (by rfl) rfl
theorem ml_L_82 : Cond.methodLink RL 82 yX7_best ∈ BIG := big_3 (i := 73) (by rfl) rfl
theorem ml_L_85 : Cond.methodLink RL 85 yX8_best ∈ BIG := big_4 (i := 188) (by rfl) rfl
theorem ml_L_86 : Cond.methodLink RL 86 yX7_earns ∈ BIG := big_3 (i := 92) (by rfl) rfl
theorem ml_L_89 : Cond.methodLink RL 89 yX8_earns ∈ BIG := big_4 (i := 196) (by rfl) rfl
theorem ml_L_90 : Cond.methodLink RL 90 yX7_busy ∈ BIG := big_3 (i := 101) (by rfl) rfl
theorem ml_L_93 : Cond.methodLink RL 93 yX8_busy ∈ BIG := big_4 (i := 200) (by rfl) rfl
theorem ml_L_94 : Cond.methodLink RL 94 yX7_count ∈ BIG := big_3 (i := 110) (by rfl) rfl
theorem ml_L_97 : Cond.methodLink RL 97 yX8_count ∈ BIG := big_4 (i := 214) (by rfl) rfl
theorem ml_L_98 : Cond.methodLink RL 98 yX7_undo ∈ BIG := big_3 (i := 138) (by rfl) rfl
theorem ml_L_101 : Cond.methodLink RL 101 yX8_undo ∈ BIG := big_4 (i := 226) (by rfl) rfl
theorem ml_L_102 : Cond.methodLink RL 102 yX7_type ∈ BIG := big_3 (i := 147) (by rfl) rfl
theorem ml_L_105 : Cond.methodLink RL 105 yX8_type ∈ BIG := big_4 (i := 230) (by rfl) rfl
theorem ml_L_106 : Cond.methodLink RL 106 yX7_clearText ∈ BIG := big_3 (i := 156) (by rfl) rfl
theorem ml_L_109 : Cond.methodLink RL 109 yX8_clearText ∈ BIG := big_4 (i := 234) (by rfl) rfl
theorem ml_L_110 : Cond.methodLink RL 110 yX7_fault ∈ BIG := big_3 (i := 164) (by rfl) rfl
theorem ml_L_113 : Cond.methodLink RL 113 yX8_fault ∈ BIG := big_4 (i := 238) (by rfl) rfl
theorem ml_L_114 : Cond.methodLink RL 114 yX7_play ∈ BIG := big_3 (i := 202) (by rfl) rfl
theorem ml_L_117 : Cond.methodLink RL 117 yX8_play ∈ BIG := big_5 (i := 35) (by rfl) rfl
theorem ml_X8_39 : Cond.methodLink RX8 39 yX8_isPlayer ∈ BIG := big_4 (i := 41) (by rfl) rfl
theorem ml_X8_43 : Cond.methodLink RX8 43 yX8_in ∈ BIG := big_4 (i := 45) (by rfl) rfl
theorem ml_X8_47 : Cond.methodLink RX8 47 yX8_amount ∈ BIG := big_4 (i := 90) (by rfl) rfl
theorem ml_X8_52 : Cond.methodLink RX8 52 yX8_changes ∈ BIG := big_4 (i := 29) (by rfl) rfl
theorem ml_X8_55 : Cond.methodLink RX8 55 yX8_isWorker ∈ BIG := big_4 (i := 37) (by rfl) rfl
theorem ml_X8_60 : Cond.methodLink RX8 60 yX8_of ∈ BIG := big_4 (i := 49) (by rfl) rfl
theorem ml_X8_64 : Cond.methodLink RX8 64 yX8_ofTask ∈ BIG := big_4 (i := 78) (by rfl) rfl
theorem ml_X8_67 : Cond.methodLink RX8 67 yX8_workers ∈ BIG := big_4 (i := 82) (by rfl) rfl
theorem ml_X8_71 : Cond.methodLink RX8 71 yX8_left ∈ BIG := big_4 (i := 74) (by rfl) rfl
theorem ml_X8_75 : Cond.methodLink RX8 75 yX8_has ∈ BIG := big_4 (i := 86) (by rfl) rfl
theorem ml_X8_78 : Cond.methodLink RX8 78 yX8_pays ∈ BIG := big_4 (i := 97) (by rfl) rfl
theorem ml_X8_82 : Cond.methodLink RX8 82 yX8_isTask ∈ BIG := big_4 (i := 66) (by rfl) rfl
theorem ml_X8_85 : Cond.methodLink RX8 85 yX8_canPut ∈ BIG := big_4 (i := 70) (by rfl) rfl
theorem ml_X8_88 : Cond.methodLink RX8 88 yX8_puts ∈ BIG := big_4 (i := 93) (by rfl) rfl
theorem ml_X8_94 : Cond.methodLink RX8 94 yX8_gains ∈ BIG := big_4 (i := 117) (by rfl) rfl
theorem ml_X8_97 : Cond.methodLink RX8 97 yX8_flips ∈ BIG := big_4 (i := 109) (by rfl) rfl
theorem ml_X8_101 : Cond.methodLink RX8 101 yX8_works ∈ BIG := big_4 (i := 113) (by rfl) rfl
theorem ml_X8_104 : Cond.methodLink RX8 104 yX8_isContract ∈ BIG := big_4 (i := 125) (by rfl) rfl
theorem ml_X8_107 : Cond.methodLink RX8 107 yX8_goes ∈ BIG := big_4 (i := 133) (by rfl) rfl
theorem ml_X8_110 : Cond.methodLink RX8 110 yX8_outs ∈ BIG := big_4 (i := 141) (by rfl) rfl
theorem ml_X8_114 : Cond.methodLink RX8 114 yX8_copies ∈ BIG := big_4 (i := 154) (by rfl) rfl
theorem ml_X8_118 : Cond.methodLink RX8 118 yX8_waited ∈ BIG := big_4 (i := 145) (by rfl) rfl
theorem ml_X8_121 : Cond.methodLink RX8 121 yX8_nextOut ∈ BIG := big_4 (i := 149) (by rfl) rfl
theorem ml_X8_124 : Cond.methodLink RX8 124 yX8_told ∈ BIG := big_4 (i := 169) (by rfl) rfl
theorem ml_X8_127 : Cond.methodLink RX8 127 yX8_anySand ∈ BIG := big_4 (i := 180) (by rfl) rfl
theorem ml_X8_131 : Cond.methodLink RX8 131 yX8_sum ∈ BIG := big_4 (i := 192) (by rfl) rfl
theorem ml_X8_134 : Cond.methodLink RX8 134 yJxf58ca_floatToIntBits_5c35a ∈ BIG := big_4 (i := 204) (by rfl) rfl
theorem ml_X8_140 : Cond.methodLink RX8 140 yX8_goods ∈ BIG := big_4 (i := 222) (by rfl) rfl
theorem ml_X8_143 : Cond.methodLink RX8 143 yX8_ahead ∈ BIG := big_4 (i := 218) (by rfl) rfl
theorem ml_X8_152 : Cond.methodLink RX8 152 yX8_isAt ∈ BIG := big_5 (i := 10) (by rfl) rfl
theorem ml_X8_158 : Cond.methodLink RX8 158 yX8_numbersOf ∈ BIG := big_5 (i := 14) (by rfl) rfl
theorem ml_X8_161 : Cond.methodLink RX8 161 yX8_number ∈ BIG := big_5 (i := 17) (by rfl) rfl
theorem ml_X8_164 : Cond.methodLink RX8 164 yX8_sign ∈ BIG := big_5 (i := 21) (by rfl) rfl
theorem ml_X8_167 : Cond.methodLink RX8 167 yX8_task ∈ BIG := big_5 (i := 29) (by rfl) rfl
theorem ml_X8_171 : Cond.methodLink RX8 171 yX8_put ∈ BIG := big_5 (i := 30) (by rfl) rfl
theorem ml_X8_175 : Cond.methodLink RX8 175 yX8_home ∈ BIG := big_5 (i := 31) (by rfl) rfl
theorem ml_X8_178 : Cond.methodLink RX8 178 yX8_contract ∈ BIG := big_5 (i := 32) (by rfl) rfl
theorem ml_X8_181 : Cond.methodLink RX8 181 yX8_buy ∈ BIG := big_5 (i := 33) (by rfl) rfl
theorem ml_X8_184 : Cond.methodLink RX8 184 yX8_pass ∈ BIG := big_5 (i := 34) (by rfl) rfl
theorem ml_X8_193 : Cond.methodLink RX8 193 yX8_reads ∈ BIG := big_5 (i := 6) (by rfl) rfl
theorem ml_X8_196 : Cond.methodLink RX8 196 yX8_calls ∈ BIG := big_5 (i := 25) (by rfl) rfl
theorem ml_X8_205 : Cond.methodLink RX8 205 yX8_plays ∈ BIG := big_5 (i := 2) (by rfl) rfl
theorem ml_Jxf58ca_59 : Cond.methodLink RJxf58ca 59 yJxf58ca_isNaN_12338 ∈ BIG := big_4 (i := 207) (by rfl) rfl
theorem kc_X7_79 : Cond.constant RX7 79 (-1000001) ∈ BIG := big_2 (i := 239) (by rfl) rfl
theorem kc_X7_124 : Cond.constant RX7 124 (-1000004) ∈ BIG := big_3 (i := 30) (by rfl) rfl
theorem kc_X7_193 : Cond.constant RX7 193 (-1000002) ∈ BIG := big_3 (i := 78) (by rfl) rfl
theorem kc_X7_272 : Cond.constant RX7 272 (8388608) ∈ BIG := big_3 (i := 109) (by rfl) rfl
theorem kc_X1_73 : Cond.constant RX1 73 (-1000003) ∈ BIG := big_2 (i := 50) (by rfl) rfl
theorem kc_X1_78 : Cond.constant RX1 78 (-1000001) ∈ BIG := big_2 (i := 83) (by rfl) rfl
theorem kc_X1_86 : Cond.constant RX1 86 (-1000002) ∈ BIG := big_2 (i := 91) (by rfl) rfl
theorem kc_X1_190 : Cond.constant RX1 190 (-1000004) ∈ BIG := big_3 (i := 21) (by rfl) rfl
theorem kc_X2_53 : Cond.constant RX2 53 (1000000) ∈ BIG := big_2 (i := 228) (by rfl) rfl
theorem kc_X3_29 : Cond.constant RX3 29 (-1000002) ∈ BIG := big_3 (i := 146) (by rfl) rfl
theorem kc_X4_22 : Cond.constant RX4 22 (-1000003) ∈ BIG := big_3 (i := 155) (by rfl) rfl
theorem kc_X5_49 : Cond.constant RX5 49 (-1000004) ∈ BIG := big_3 (i := 129) (by rfl) rfl
theorem kc_X8_51 : Cond.constant RX8 51 (-1000003) ∈ BIG := big_4 (i := 28) (by rfl) rfl
theorem kc_X8_59 : Cond.constant RX8 59 (-1000001) ∈ BIG := big_4 (i := 48) (by rfl) rfl
theorem kc_X8_63 : Cond.constant RX8 63 (-1000002) ∈ BIG := big_4 (i := 53) (by rfl) rfl
theorem kc_X8_113 : Cond.constant RX8 113 (-1000004) ∈ BIG := big_4 (i := 153) (by rfl) rfl
theorem kc_Jxf58ca_77 : Cond.constant RJxf58ca 77 (2143289344) ∈ BIG := big_4 (i := 213) (by rfl) rfl
theorem mw_X0_init : MW yX0_init cX0_init 1 none 0 := ⟨big_1 (i := 135) (by rfl) rfl, big_1 (i := 6) (by rfl) rfl, by decide +kernel⟩
theorem mj_X0_init : Cond.instanceMethod yX0_init ∈ BIG := big_1 (i := 134) (by rfl) rfl
theorem mw_X0_copyFrom : MW yX0_copyFrom cX0_copyFrom 2 none 1 := ⟨big_2 (i := 44) (by rfl) rfl, big_1 (i := 6) (by rfl) rfl, by decide +kernel⟩
theorem mi_X0_copyFrom : MI yX0_copyFrom := ⟨big_2 (i := 42) (by rfl) rfl, big_2 (i := 43) (by rfl) rfl⟩
theorem mw_X0_remove : MW yX0_remove cX0_remove 3 none 1 := ⟨big_2 (i := 206) (by rfl) rfl, big_1 (i := 6) (by rfl) rfl, by decide +kernel⟩
theorem mi_X0_remove : MI yX0_remove := ⟨big_2 (i := 204) (by rfl) rfl, big_2 (i := 205) (by rfl) rfl⟩
theorem mw_X1_init : MW yX1_init cX1_init 1 none 0 := ⟨big_1 (i := 25) (by rfl) rfl, big_1 (i := 2) (by rfl) rfl, by decide +kernel⟩
theorem mj_X1_init : Cond.instanceMethod yX1_init ∈ BIG := big_1 (i := 24) (by rfl) rfl
theorem mw_X1_copyFrom : MW yX1_copyFrom cX1_copyFrom 2 none 1 := ⟨big_2 (i := 17) (by rfl) rfl, big_1 (i := 2) (by rfl) rfl, by decide +kernel⟩
theorem mi_X1_copyFrom : MI yX1_copyFrom := ⟨big_2 (i := 15) (by rfl) rfl, big_2 (i := 16) (by rfl) rfl⟩
theorem mw_X1_hasPlayer : MW yX1_hasPlayer cX1_hasPlayer 2 (some .boolean) 1 := ⟨big_2 (i := 79) (by rfl) rfl, big_1 (i := 2) (by rfl) rfl, by decide +kernel⟩
theorem mi_X1_hasPlayer : MI yX1_hasPlayer := ⟨big_2 (i := 77) (by rfl) rfl, big_2 (i := 78) (by rfl) rfl⟩
theorem mw_X1_hasWorker : MW yX1_hasWorker cX1_hasWorker 3 (some .boolean) 2 := ⟨big_2 (i := 75) (by rfl) rfl, big_1 (i := 2) (by rfl) rfl, by decide +kernel⟩
theorem mi_X1_hasWorker : MI yX1_hasWorker := ⟨big_2 (i := 73) (by rfl) rfl, big_2 (i := 74) (by rfl) rfl⟩
theorem mw_X1_hasTask : MW yX1_hasTask cX1_hasTask 2 (some .boolean) 1 := ⟨big_2 (i := 119) (by rfl) rfl, big_1 (i := 2) (by rfl) rfl, by decide +kernel⟩
theorem mi_X1_hasTask : MI yX1_hasTask := ⟨big_2 (i := 117) (by rfl) rfl, big_2 (i := 118) (by rfl) rfl⟩
theorem mw_X1_hasContract : MW yX1_hasContract cX1_hasContract 2 (some .boolean) 1 := ⟨big_2 (i := 202) (by rfl) rfl, big_1 (i := 2) (by rfl) rfl, by decide +kernel⟩
theorem mi_X1_hasContract : MI yX1_hasContract := ⟨big_2 (i := 200) (by rfl) rfl, big_2 (i := 201) (by rfl) rfl⟩
theorem mw_X1_addPlayer : MW yX1_addPlayer cX1_addPlayer 2 (some .int) 0 := ⟨big_2 (i := 49) (by rfl) rfl, big_1 (i := 2) (by rfl) rfl, by decide +kernel⟩
theorem mi_X1_addPlayer : MI yX1_addPlayer := ⟨big_2 (i := 47) (by rfl) rfl, big_2 (i := 48) (by rfl) rfl⟩
theorem mw_X1_setSize : MW yX1_setSize cX1_setSize 6 (some .int) 3 := ⟨big_2 (i := 71) (by rfl) rfl, big_1 (i := 2) (by rfl) rfl, by decide +kernel⟩
theorem mi_X1_setSize : MI yX1_setSize := ⟨big_2 (i := 69) (by rfl) rfl, big_2 (i := 70) (by rfl) rfl⟩
theorem mw_X1_addTask : MW yX1_addTask cX1_addTask 6 (some .int) 4 := ⟨big_2 (i := 99) (by rfl) rfl, big_1 (i := 2) (by rfl) rfl, by decide +kernel⟩
theorem mi_X1_addTask : MI yX1_addTask := ⟨big_2 (i := 97) (by rfl) rfl, big_2 (i := 98) (by rfl) rfl⟩
theorem mw_X1_layContract : MW yX1_layContract cX1_layContract 4 (some .int) 2 := ⟨big_2 (i := 107) (by rfl) rfl, big_1 (i := 2) (by rfl) rfl, by decide +kernel⟩
theorem mi_X1_layContract : MI yX1_layContract := ⟨big_2 (i := 105) (by rfl) rfl, big_2 (i := 106) (by rfl) rfl⟩
theorem mw_X1_placesLeft : MW yX1_placesLeft cX1_placesLeft 2 (some .int) 1 := ⟨big_2 (i := 127) (by rfl) rfl, big_1 (i := 2) (by rfl) rfl, by decide +kernel⟩
theorem mi_X1_placesLeft : MI yX1_placesLeft := ⟨big_2 (i := 125) (by rfl) rfl, big_2 (i := 126) (by rfl) rfl⟩
theorem mw_X1_canBePut : MW yX1_canBePut cX1_canBePut 4 (some .boolean) 2 := ⟨big_2 (i := 123) (by rfl) rfl, big_1 (i := 2) (by rfl) rfl, by decide +kernel⟩
theorem mi_X1_canBePut : MI yX1_canBePut := ⟨big_2 (i := 121) (by rfl) rfl, big_2 (i := 122) (by rfl) rfl⟩
theorem mw_X1_putWorker : MW yX1_putWorker cX1_putWorker 5 (some .int) 3 := ⟨big_2 (i := 115) (by rfl) rfl, big_1 (i := 2) (by rfl) rfl, by decide +kernel⟩
theorem mi_X1_putWorker : MI yX1_putWorker := ⟨big_2 (i := 113) (by rfl) rfl, big_2 (i := 114) (by rfl) rfl⟩
theorem mw_X1_takeHome : MW yX1_takeHome cX1_takeHome 5 (some .int) 2 := ⟨big_2 (i := 161) (by rfl) rfl, big_1 (i := 2) (by rfl) rfl, by decide +kernel⟩
theorem mi_X1_takeHome : MI yX1_takeHome := ⟨big_2 (i := 159) (by rfl) rfl, big_2 (i := 160) (by rfl) rfl⟩
theorem mw_X1_flipByHand : MW yX1_flipByHand cX1_flipByHand 4 (some .int) 2 := ⟨big_2 (i := 169) (by rfl) rfl, big_1 (i := 2) (by rfl) rfl, by decide +kernel⟩
theorem mi_X1_flipByHand : MI yX1_flipByHand := ⟨big_2 (i := 167) (by rfl) rfl, big_2 (i := 168) (by rfl) rfl⟩
theorem mw_X1_buyContract : MW yX1_buyContract cX1_buyContract 4 (some .int) 2 := ⟨big_2 (i := 198) (by rfl) rfl, big_1 (i := 2) (by rfl) rfl, by decide +kernel⟩
theorem mi_X1_buyContract : MI yX1_buyContract := ⟨big_2 (i := 196) (by rfl) rfl, big_2 (i := 197) (by rfl) rfl⟩
theorem mw_X1_letPass : MW yX1_letPass cX1_letPass 2 (some .int) 1 := ⟨big_2 (i := 214) (by rfl) rfl, big_1 (i := 2) (by rfl) rfl, by decide +kernel⟩
theorem mi_X1_letPass : MI yX1_letPass := ⟨big_2 (i := 212) (by rfl) rfl, big_2 (i := 213) (by rfl) rfl⟩
theorem mw_X1_advance : MW yX1_advance cX1_advance 6 (some .int) 1 := ⟨big_2 (i := 218) (by rfl) rfl, big_1 (i := 2) (by rfl) rfl, by decide +kernel⟩
theorem mi_X1_advance : MI yX1_advance := ⟨big_2 (i := 216) (by rfl) rfl, big_2 (i := 217) (by rfl) rfl⟩
theorem mw_X1_addIfDue : MW yX1_addIfDue cX1_addIfDue 2 none 1 := ⟨big_2 (i := 177) (by rfl) rfl, big_1 (i := 2) (by rfl) rfl, by decide +kernel⟩
theorem mi_X1_addIfDue : MI yX1_addIfDue := ⟨big_2 (i := 176) (by rfl) rfl, big_p (i := 3) (q := (yX1_addIfDue, _)) (by rfl)⟩
theorem mw_X1_finishDue : MW yX1_finishDue cX1_finishDue 4 (some .int) 0 := ⟨big_2 (i := 181) (by rfl) rfl, big_1 (i := 2) (by rfl) rfl, by decide +kernel⟩
theorem mi_X1_finishDue : MI yX1_finishDue := ⟨big_2 (i := 180) (by rfl) rfl, big_p (i := 4) (q := (yX1_finishDue, _)) (by rfl)⟩
theorem mw_X1_takeEffect : MW yX1_takeEffect cX1_takeEffect 4 none 2 := ⟨big_2 (i := 190) (by rfl) rfl, big_1 (i := 2) (by rfl) rfl, by decide +kernel⟩
theorem mi_X1_takeEffect : MI yX1_takeEffect := ⟨big_2 (i := 189) (by rfl) rfl, big_p (i := 5) (q := (yX1_takeEffect, _)) (by rfl)⟩
theorem mw_X1_untilOneIsOut : MW yX1_untilOneIsOut cX1_untilOneIsOut 6 (some .int) 1 := ⟨big_3 (i := 19) (by rfl) rfl, big_1 (i := 2) (by rfl) rfl, by decide +kernel⟩
theorem mi_X1_untilOneIsOut : MI yX1_untilOneIsOut := ⟨big_3 (i := 17) (by rfl) rfl, big_3 (i := 18) (by rfl) rfl⟩
theorem mw_X1_bestTask : MW yX1_bestTask cX1_bestTask 4 (some .int) 1 := ⟨big_3 (i := 82) (by rfl) rfl, big_1 (i := 2) (by rfl) rfl, by decide +kernel⟩
theorem mi_X1_bestTask : MI yX1_bestTask := ⟨big_3 (i := 80) (by rfl) rfl, big_3 (i := 81) (by rfl) rfl⟩
theorem mw_X1_untilAffordable : MW yX1_untilAffordable cX1_untilAffordable 7 (some .int) 3 := ⟨big_3 (i := 99) (by rfl) rfl, big_1 (i := 2) (by rfl) rfl, by decide +kernel⟩
theorem mi_X1_untilAffordable : MI yX1_untilAffordable := ⟨big_3 (i := 97) (by rfl) rfl, big_3 (i := 98) (by rfl) rfl⟩
theorem mw_X2_init : MW yX2_init cX2_init 2 none 0 := ⟨big_1 (i := 56) (by rfl) rfl, big_1 (i := 4) (by rfl) rfl, by decide +kernel⟩
theorem mj_X2_init : Cond.instanceMethod yX2_init ∈ BIG := big_1 (i := 55) (by rfl) rfl
theorem mw_X2_copyFrom : MW yX2_copyFrom cX2_copyFrom 2 none 1 := ⟨big_2 (i := 34) (by rfl) rfl, big_1 (i := 4) (by rfl) rfl, by decide +kernel⟩
theorem mi_X2_copyFrom : MI yX2_copyFrom := ⟨big_2 (i := 32) (by rfl) rfl, big_2 (i := 33) (by rfl) rfl⟩
theorem mw_X2_isOut : MW yX2_isOut cX2_isOut 2 (some .boolean) 1 := ⟨big_2 (i := 90) (by rfl) rfl, big_1 (i := 4) (by rfl) rfl, by decide +kernel⟩
theorem mi_X2_isOut : MI yX2_isOut := ⟨big_2 (i := 88) (by rfl) rfl, big_2 (i := 89) (by rfl) rfl⟩
theorem mw_X2_start : MW yX2_start cX2_start 3 none 2 := ⟨big_2 (i := 153) (by rfl) rfl, big_1 (i := 4) (by rfl) rfl, by decide +kernel⟩
theorem mi_X2_start : MI yX2_start := ⟨big_2 (i := 151) (by rfl) rfl, big_2 (i := 152) (by rfl) rfl⟩
theorem mw_X2_flipOne : MW yX2_flipOne cX2_flipOne 2 none 1 := ⟨big_2 (i := 173) (by rfl) rfl, big_1 (i := 4) (by rfl) rfl, by decide +kernel⟩
theorem mi_X2_flipOne : MI yX2_flipOne := ⟨big_2 (i := 171) (by rfl) rfl, big_2 (i := 172) (by rfl) rfl⟩
theorem mw_X2_numberOn : MW yX2_numberOn cX2_numberOn 4 (some .int) 1 := ⟨big_2 (i := 131) (by rfl) rfl, big_1 (i := 4) (by rfl) rfl, by decide +kernel⟩
theorem mi_X2_numberOn : MI yX2_numberOn := ⟨big_2 (i := 129) (by rfl) rfl, big_2 (i := 130) (by rfl) rfl⟩
theorem mw_X2_aheadOnTask : MW yX2_aheadOnTask cX2_aheadOnTask 4 (some .int) 1 := ⟨big_3 (i := 48) (by rfl) rfl, big_1 (i := 4) (by rfl) rfl, by decide +kernel⟩
theorem mi_X2_aheadOnTask : MI yX2_aheadOnTask := ⟨big_3 (i := 47) (by rfl) rfl, big_p (i := 6) (q := (yX2_aheadOnTask, _)) (by rfl)⟩
theorem mw_X2_atPlace : MW yX2_atPlace cX2_atPlace 4 (some .int) 2 := ⟨big_3 (i := 44) (by rfl) rfl, big_1 (i := 4) (by rfl) rfl, by decide +kernel⟩
theorem mi_X2_atPlace : MI yX2_atPlace := ⟨big_3 (i := 42) (by rfl) rfl, big_3 (i := 43) (by rfl) rfl⟩
theorem mw_X2_nextOut : MW yX2_nextOut cX2_nextOut 3 (some .int) 0 := ⟨big_2 (i := 226) (by rfl) rfl, big_1 (i := 4) (by rfl) rfl, by decide +kernel⟩
theorem mi_X2_nextOut : MI yX2_nextOut := ⟨big_2 (i := 224) (by rfl) rfl, big_2 (i := 225) (by rfl) rfl⟩
theorem mw_X2_untilNextOut : MW yX2_untilNextOut cX2_untilNextOut 2 (some .int) 0 := ⟨big_2 (i := 222) (by rfl) rfl, big_1 (i := 4) (by rfl) rfl, by decide +kernel⟩
theorem mi_X2_untilNextOut : MI yX2_untilNextOut := ⟨big_2 (i := 220) (by rfl) rfl, big_2 (i := 221) (by rfl) rfl⟩
theorem mw_X2_outOf : MW yX2_outOf cX2_outOf 4 (some .int) 1 := ⟨big_3 (i := 11) (by rfl) rfl, big_1 (i := 4) (by rfl) rfl, by decide +kernel⟩
theorem mi_X2_outOf : MI yX2_outOf := ⟨big_3 (i := 9) (by rfl) rfl, big_3 (i := 10) (by rfl) rfl⟩
theorem mw_X2_worksOf : MW yX2_worksOf cX2_worksOf 2 (some .int) 1 := ⟨big_3 (i := 3) (by rfl) rfl, big_1 (i := 4) (by rfl) rfl, by decide +kernel⟩
theorem mi_X2_worksOf : MI yX2_worksOf := ⟨big_3 (i := 1) (by rfl) rfl, big_3 (i := 2) (by rfl) rfl⟩
theorem mw_X2_waitingOf : MW yX2_waitingOf cX2_waitingOf 2 (some .int) 1 := ⟨big_3 (i := 15) (by rfl) rfl, big_1 (i := 4) (by rfl) rfl, by decide +kernel⟩
theorem mi_X2_waitingOf : MI yX2_waitingOf := ⟨big_3 (i := 13) (by rfl) rfl, big_3 (i := 14) (by rfl) rfl⟩
theorem mw_X2_allWorks : MW yX2_allWorks cX2_allWorks 1 (some .int) 0 := ⟨big_3 (i := 117) (by rfl) rfl, big_1 (i := 4) (by rfl) rfl, by decide +kernel⟩
theorem mi_X2_allWorks : MI yX2_allWorks := ⟨big_3 (i := 115) (by rfl) rfl, big_3 (i := 116) (by rfl) rfl⟩
theorem mw_X2_allFlips : MW yX2_allFlips cX2_allFlips 1 (some .int) 0 := ⟨big_3 (i := 124) (by rfl) rfl, big_1 (i := 4) (by rfl) rfl, by decide +kernel⟩
theorem mi_X2_allFlips : MI yX2_allFlips := ⟨big_3 (i := 122) (by rfl) rfl, big_3 (i := 123) (by rfl) rfl⟩
theorem mw_X2_sumOf : MW yX2_sumOf cX2_sumOf 4 (some .int) 2 := ⟨big_3 (i := 6) (by rfl) rfl, big_1 (i := 4) (by rfl) rfl, by decide +kernel⟩
theorem ms_X2_sumOf : Cond.static yX2_sumOf ∈ BIG := big_3 (i := 5) (by rfl) rfl
theorem mw_X2_sumOfAll : MW yX2_sumOfAll cX2_sumOfAll 3 (some .int) 1 := ⟨big_3 (i := 120) (by rfl) rfl, big_1 (i := 4) (by rfl) rfl, by decide +kernel⟩
theorem ms_X2_sumOfAll : Cond.static yX2_sumOfAll ∈ BIG := big_3 (i := 119) (by rfl) rfl
theorem mw_X3_init : MW yX3_init cX3_init 2 none 0 := ⟨big_1 (i := 184) (by rfl) rfl, big_1 (i := 7) (by rfl) rfl, by decide +kernel⟩
theorem mj_X3_init : Cond.instanceMethod yX3_init ∈ BIG := big_1 (i := 183) (by rfl) rfl
theorem mw_X3_record : MW yX3_record cX3_record 2 none 1 := ⟨big_2 (i := 58) (by rfl) rfl, big_1 (i := 7) (by rfl) rfl, by decide +kernel⟩
theorem mi_X3_record : MI yX3_record := ⟨big_2 (i := 56) (by rfl) rfl, big_2 (i := 57) (by rfl) rfl⟩
theorem mw_X3_dropOldest : MW yX3_dropOldest cX3_dropOldest 3 none 0 := ⟨big_2 (i := 62) (by rfl) rfl, big_1 (i := 7) (by rfl) rfl, by decide +kernel⟩
theorem mi_X3_dropOldest : MI yX3_dropOldest := ⟨big_2 (i := 61) (by rfl) rfl, big_p (i := 2) (q := (yX3_dropOldest, _)) (by rfl)⟩
theorem mw_X3_restore : MW yX3_restore cX3_restore 2 (some .int) 1 := ⟨big_3 (i := 145) (by rfl) rfl, big_1 (i := 7) (by rfl) rfl, by decide +kernel⟩
theorem mi_X3_restore : MI yX3_restore := ⟨big_3 (i := 143) (by rfl) rfl, big_3 (i := 144) (by rfl) rfl⟩
theorem mw_X4_init : MW yX4_init cX4_init 1 none 0 := ⟨big_1 (i := 201) (by rfl) rfl, big_1 (i := 8) (by rfl) rfl, by decide +kernel⟩
theorem mj_X4_init : Cond.instanceMethod yX4_init ∈ BIG := big_1 (i := 200) (by rfl) rfl
theorem mw_X4_append : MW yX4_append cX4_append 2 (some .int) 1 := ⟨big_3 (i := 154) (by rfl) rfl, big_1 (i := 8) (by rfl) rfl, by decide +kernel⟩
theorem mi_X4_append : MI yX4_append := ⟨big_3 (i := 152) (by rfl) rfl, big_3 (i := 153) (by rfl) rfl⟩
theorem mw_X4_clear : MW yX4_clear cX4_clear 2 (some .int) 0 := ⟨big_3 (i := 163) (by rfl) rfl, big_1 (i := 8) (by rfl) rfl, by decide +kernel⟩
theorem mi_X4_clear : MI yX4_clear := ⟨big_3 (i := 161) (by rfl) rfl, big_3 (i := 162) (by rfl) rfl⟩
theorem mw_X4_obeyAll : MW yX4_obeyAll cX4_obeyAll 3 (some .boolean) 1 := ⟨big_3 (i := 171) (by rfl) rfl, big_1 (i := 8) (by rfl) rfl, by decide +kernel⟩
theorem mi_X4_obeyAll : MI yX4_obeyAll := ⟨big_3 (i := 169) (by rfl) rfl, big_3 (i := 170) (by rfl) rfl⟩
theorem mw_X4_readOrder : MW yX4_readOrder cX4_readOrder 3 (some .boolean) 0 := ⟨big_3 (i := 175) (by rfl) rfl, big_1 (i := 8) (by rfl) rfl, by decide +kernel⟩
theorem mi_X4_readOrder : MI yX4_readOrder := ⟨big_3 (i := 174) (by rfl) rfl, big_p (i := 7) (q := (yX4_readOrder, _)) (by rfl)⟩
theorem mw_X4_readNumber : MW yX4_readNumber cX4_readNumber 4 (some .boolean) 1 := ⟨big_3 (i := 187) (by rfl) rfl, big_1 (i := 8) (by rfl) rfl, by decide +kernel⟩
theorem mi_X4_readNumber : MI yX4_readNumber := ⟨big_3 (i := 186) (by rfl) rfl, big_p (i := 9) (q := (yX4_readNumber, _)) (by rfl)⟩
theorem mw_X4_readSign : MW yX4_readSign cX4_readSign 2 (some .boolean) 1 := ⟨big_3 (i := 191) (by rfl) rfl, big_1 (i := 8) (by rfl) rfl, by decide +kernel⟩
theorem mi_X4_readSign : MI yX4_readSign := ⟨big_3 (i := 190) (by rfl) rfl, big_p (i := 10) (q := (yX4_readSign, _)) (by rfl)⟩
theorem mw_X4_signAt : MW yX4_signAt cX4_signAt 2 (some .int) 1 := ⟨big_3 (i := 179) (by rfl) rfl, big_1 (i := 8) (by rfl) rfl, by decide +kernel⟩
theorem mi_X4_signAt : MI yX4_signAt := ⟨big_3 (i := 178) (by rfl) rfl, big_p (i := 8) (q := (yX4_signAt, _)) (by rfl)⟩
theorem mw_X4_numbersOf : MW yX4_numbersOf cX4_numbersOf 1 (some .int) 1 := ⟨big_3 (i := 183) (by rfl) rfl, big_1 (i := 8) (by rfl) rfl, by decide +kernel⟩
theorem ms_X4_numbersOf : Cond.static yX4_numbersOf ∈ BIG := big_3 (i := 182) (by rfl) rfl
theorem mw_X4_obey : MW yX4_obey cX4_obey 3 (some .int) 2 := ⟨big_3 (i := 195) (by rfl) rfl, big_1 (i := 8) (by rfl) rfl, by decide +kernel⟩
theorem mi_X4_obey : MI yX4_obey := ⟨big_3 (i := 194) (by rfl) rfl, big_p (i := 11) (q := (yX4_obey, _)) (by rfl)⟩
theorem mw_X5_init : MW yX5_init cX5_init 2 none 0 := ⟨big_1 (i := 31) (by rfl) rfl, big_1 (i := 3) (by rfl) rfl, by decide +kernel⟩
theorem mj_X5_init : Cond.instanceMethod yX5_init ∈ BIG := big_1 (i := 30) (by rfl) rfl
theorem mw_X5_copyFrom : MW yX5_copyFrom cX5_copyFrom 2 none 1 := ⟨big_2 (i := 21) (by rfl) rfl, big_1 (i := 3) (by rfl) rfl, by decide +kernel⟩
theorem mi_X5_copyFrom : MI yX5_copyFrom := ⟨big_2 (i := 19) (by rfl) rfl, big_2 (i := 20) (by rfl) rfl⟩
theorem mw_X5_amountOf : MW yX5_amountOf cX5_amountOf 3 (some .int) 2 := ⟨big_2 (i := 142) (by rfl) rfl, big_1 (i := 3) (by rfl) rfl, by decide +kernel⟩
theorem mi_X5_amountOf : MI yX5_amountOf := ⟨big_2 (i := 140) (by rfl) rfl, big_2 (i := 141) (by rfl) rfl⟩
theorem mw_X5_have : MW yX5_have cX5_have 4 (some .boolean) 2 := ⟨big_2 (i := 138) (by rfl) rfl, big_1 (i := 3) (by rfl) rfl, by decide +kernel⟩
theorem mi_X5_have : MI yX5_have := ⟨big_2 (i := 136) (by rfl) rfl, big_2 (i := 137) (by rfl) rfl⟩
theorem mw_X5_allWhoHave : MW yX5_allWhoHave cX5_allWhoHave 4 (some .int) 1 := ⟨big_3 (i := 61) (by rfl) rfl, big_1 (i := 3) (by rfl) rfl, by decide +kernel⟩
theorem mi_X5_allWhoHave : MI yX5_allWhoHave := ⟨big_3 (i := 59) (by rfl) rfl, big_3 (i := 60) (by rfl) rfl⟩
theorem mw_X5_pay : MW yX5_pay cX5_pay 4 none 2 := ⟨big_2 (i := 149) (by rfl) rfl, big_1 (i := 3) (by rfl) rfl, by decide +kernel⟩
theorem mi_X5_pay : MI yX5_pay := ⟨big_2 (i := 147) (by rfl) rfl, big_2 (i := 148) (by rfl) rfl⟩
theorem mw_X5_gain : MW yX5_gain cX5_gain 6 none 2 := ⟨big_2 (i := 185) (by rfl) rfl, big_1 (i := 3) (by rfl) rfl, by decide +kernel⟩
theorem mi_X5_gain : MI yX5_gain := ⟨big_2 (i := 183) (by rfl) rfl, big_2 (i := 184) (by rfl) rfl⟩
theorem mw_X5_allGoodsOf : MW yX5_allGoodsOf cX5_allGoodsOf 2 (some .int) 1 := ⟨big_3 (i := 137) (by rfl) rfl, big_1 (i := 3) (by rfl) rfl, by decide +kernel⟩
theorem mi_X5_allGoodsOf : MI yX5_allGoodsOf := ⟨big_3 (i := 135) (by rfl) rfl, big_3 (i := 136) (by rfl) rfl⟩
theorem mw_X5_isAheadOf : MW yX5_isAheadOf cX5_isAheadOf 3 (some .boolean) 2 := ⟨big_3 (i := 133) (by rfl) rfl, big_1 (i := 3) (by rfl) rfl, by decide +kernel⟩
theorem mi_X5_isAheadOf : MI yX5_isAheadOf := ⟨big_3 (i := 131) (by rfl) rfl, big_3 (i := 132) (by rfl) rfl⟩
theorem mw_X5_ahead : MW yX5_ahead cX5_ahead 3 (some .int) 0 := ⟨big_3 (i := 128) (by rfl) rfl, big_1 (i := 3) (by rfl) rfl, by decide +kernel⟩
theorem mi_X5_ahead : MI yX5_ahead := ⟨big_3 (i := 126) (by rfl) rfl, big_3 (i := 127) (by rfl) rfl⟩
theorem mw_X6_init : MW yX6_init cX6_init 1 none 0 := ⟨big_1 (i := 98) (by rfl) rfl, big_1 (i := 5) (by rfl) rfl, by decide +kernel⟩
theorem mj_X6_init : Cond.instanceMethod yX6_init ∈ BIG := big_1 (i := 97) (by rfl) rfl
theorem mw_X6_copyFrom : MW yX6_copyFrom cX6_copyFrom 2 none 1 := ⟨big_2 (i := 39) (by rfl) rfl, big_1 (i := 5) (by rfl) rfl, by decide +kernel⟩
theorem mi_X6_copyFrom : MI yX6_copyFrom := ⟨big_2 (i := 37) (by rfl) rfl, big_2 (i := 38) (by rfl) rfl⟩
theorem mw_X6_differenceOf : MW yX6_differenceOf cX6_differenceOf 2 (some .int) 1 := ⟨big_3 (i := 86) (by rfl) rfl, big_1 (i := 5) (by rfl) rfl, by decide +kernel⟩
theorem mi_X6_differenceOf : MI yX6_differenceOf := ⟨big_3 (i := 84) (by rfl) rfl, big_3 (i := 85) (by rfl) rfl⟩
theorem mw_X7_init : MW yX7_init cX7_init 1 none 0 := ⟨big_1 (i := 17) (by rfl) rfl, big_1 (i := 1) (by rfl) rfl, by decide +kernel⟩
theorem mj_X7_init : Cond.instanceMethod yX7_init ∈ BIG := big_1 (i := 16) (by rfl) rfl
theorem mw_X7_player : MW yX7_player cX7_player 1 (some .int) 0 := ⟨big_2 (i := 9) (by rfl) rfl, big_1 (i := 1) (by rfl) rfl, by decide +kernel⟩
theorem mi_X7_player : MI yX7_player := ⟨big_2 (i := 7) (by rfl) rfl, big_2 (i := 8) (by rfl) rfl⟩
theorem mw_X7_size : MW yX7_size cX7_size 4 (some .int) 3 := ⟨big_2 (i := 67) (by rfl) rfl, big_1 (i := 1) (by rfl) rfl, by decide +kernel⟩
theorem mi_X7_size : MI yX7_size := ⟨big_2 (i := 65) (by rfl) rfl, big_2 (i := 66) (by rfl) rfl⟩
theorem mw_X7_task : MW yX7_task cX7_task 5 (some .int) 4 := ⟨big_2 (i := 95) (by rfl) rfl, big_1 (i := 1) (by rfl) rfl, by decide +kernel⟩
theorem mi_X7_task : MI yX7_task := ⟨big_2 (i := 93) (by rfl) rfl, big_2 (i := 94) (by rfl) rfl⟩
theorem mw_X7_contract : MW yX7_contract cX7_contract 3 (some .int) 2 := ⟨big_2 (i := 103) (by rfl) rfl, big_1 (i := 1) (by rfl) rfl, by decide +kernel⟩
theorem mi_X7_contract : MI yX7_contract := ⟨big_2 (i := 101) (by rfl) rfl, big_2 (i := 102) (by rfl) rfl⟩
theorem mw_X7_put : MW yX7_put cX7_put 4 (some .int) 3 := ⟨big_2 (i := 111) (by rfl) rfl, big_1 (i := 1) (by rfl) rfl, by decide +kernel⟩
theorem mi_X7_put : MI yX7_put := ⟨big_2 (i := 109) (by rfl) rfl, big_2 (i := 110) (by rfl) rfl⟩
theorem mw_X7_home : MW yX7_home cX7_home 3 (some .int) 2 := ⟨big_2 (i := 157) (by rfl) rfl, big_1 (i := 1) (by rfl) rfl, by decide +kernel⟩
theorem mi_X7_home : MI yX7_home := ⟨big_2 (i := 155) (by rfl) rfl, big_2 (i := 156) (by rfl) rfl⟩
theorem mw_X7_flip : MW yX7_flip cX7_flip 3 (some .int) 2 := ⟨big_2 (i := 165) (by rfl) rfl, big_1 (i := 1) (by rfl) rfl, by decide +kernel⟩
theorem mi_X7_flip : MI yX7_flip := ⟨big_2 (i := 163) (by rfl) rfl, big_2 (i := 164) (by rfl) rfl⟩
theorem mw_X7_buy : MW yX7_buy cX7_buy 3 (some .int) 2 := ⟨big_2 (i := 194) (by rfl) rfl, big_1 (i := 1) (by rfl) rfl, by decide +kernel⟩
theorem mi_X7_buy : MI yX7_buy := ⟨big_2 (i := 192) (by rfl) rfl, big_2 (i := 193) (by rfl) rfl⟩
theorem mw_X7_pass : MW yX7_pass cX7_pass 2 (some .int) 1 := ⟨big_2 (i := 210) (by rfl) rfl, big_1 (i := 1) (by rfl) rfl, by decide +kernel⟩
theorem mi_X7_pass : MI yX7_pass := ⟨big_2 (i := 208) (by rfl) rfl, big_2 (i := 209) (by rfl) rfl⟩
theorem mw_X7_playerOf : MW yX7_playerOf cX7_playerOf 3 (some .int) 2 := ⟨big_2 (i := 236) (by rfl) rfl, big_1 (i := 1) (by rfl) rfl, by decide +kernel⟩
theorem mi_X7_playerOf : MI yX7_playerOf := ⟨big_2 (i := 234) (by rfl) rfl, big_2 (i := 235) (by rfl) rfl⟩
theorem mw_X7_workerOf : MW yX7_workerOf cX7_workerOf 6 (some .int) 3 := ⟨big_3 (i := 27) (by rfl) rfl, big_1 (i := 1) (by rfl) rfl, by decide +kernel⟩
theorem mi_X7_workerOf : MI yX7_workerOf := ⟨big_3 (i := 25) (by rfl) rfl, big_3 (i := 26) (by rfl) rfl⟩
theorem mw_X7_taskOf : MW yX7_taskOf cX7_taskOf 3 (some .int) 2 := ⟨big_3 (i := 34) (by rfl) rfl, big_1 (i := 1) (by rfl) rfl, by decide +kernel⟩
theorem mi_X7_taskOf : MI yX7_taskOf := ⟨big_3 (i := 32) (by rfl) rfl, big_3 (i := 33) (by rfl) rfl⟩
theorem mw_X7_on : MW yX7_on cX7_on 4 (some .int) 2 := ⟨big_3 (i := 40) (by rfl) rfl, big_1 (i := 1) (by rfl) rfl, by decide +kernel⟩
theorem mi_X7_on : MI yX7_on := ⟨big_3 (i := 38) (by rfl) rfl, big_3 (i := 39) (by rfl) rfl⟩
theorem mw_X7_contractOf : MW yX7_contractOf cX7_contractOf 4 (some .int) 2 := ⟨big_3 (i := 56) (by rfl) rfl, big_1 (i := 1) (by rfl) rfl, by decide +kernel⟩
theorem mi_X7_contractOf : MI yX7_contractOf := ⟨big_3 (i := 54) (by rfl) rfl, big_3 (i := 55) (by rfl) rfl⟩
theorem mw_X7_next : MW yX7_next cX7_next 3 (some .int) 1 := ⟨big_3 (i := 66) (by rfl) rfl, big_1 (i := 1) (by rfl) rfl, by decide +kernel⟩
theorem mi_X7_next : MI yX7_next := ⟨big_3 (i := 64) (by rfl) rfl, big_3 (i := 65) (by rfl) rfl⟩
theorem mw_X7_would : MW yX7_would cX7_would 4 (some .int) 3 := ⟨big_3 (i := 71) (by rfl) rfl, big_1 (i := 1) (by rfl) rfl, by decide +kernel⟩
theorem mi_X7_would : MI yX7_would := ⟨big_3 (i := 69) (by rfl) rfl, big_3 (i := 70) (by rfl) rfl⟩
theorem mw_X7_best : MW yX7_best cX7_best 6 (some .int) 3 := ⟨big_3 (i := 76) (by rfl) rfl, big_1 (i := 1) (by rfl) rfl, by decide +kernel⟩
theorem mi_X7_best : MI yX7_best := ⟨big_3 (i := 74) (by rfl) rfl, big_3 (i := 75) (by rfl) rfl⟩
theorem mw_X7_earns : MW yX7_earns cX7_earns 4 (some .int) 3 := ⟨big_3 (i := 95) (by rfl) rfl, big_1 (i := 1) (by rfl) rfl, by decide +kernel⟩
theorem mi_X7_earns : MI yX7_earns := ⟨big_3 (i := 93) (by rfl) rfl, big_3 (i := 94) (by rfl) rfl⟩
theorem mw_X7_busy : MW yX7_busy cX7_busy 5 (some .int) 2 := ⟨big_3 (i := 104) (by rfl) rfl, big_1 (i := 1) (by rfl) rfl, by decide +kernel⟩
theorem mi_X7_busy : MI yX7_busy := ⟨big_3 (i := 102) (by rfl) rfl, big_3 (i := 103) (by rfl) rfl⟩
theorem mw_X7_count : MW yX7_count cX7_count 2 (some .int) 1 := ⟨big_3 (i := 113) (by rfl) rfl, big_1 (i := 1) (by rfl) rfl, by decide +kernel⟩
theorem mi_X7_count : MI yX7_count := ⟨big_3 (i := 111) (by rfl) rfl, big_3 (i := 112) (by rfl) rfl⟩
theorem mw_X7_undo : MW yX7_undo cX7_undo 1 (some .int) 0 := ⟨big_3 (i := 141) (by rfl) rfl, big_1 (i := 1) (by rfl) rfl, by decide +kernel⟩
theorem mi_X7_undo : MI yX7_undo := ⟨big_3 (i := 139) (by rfl) rfl, big_3 (i := 140) (by rfl) rfl⟩
theorem mw_X7_type : MW yX7_type cX7_type 2 (some .int) 1 := ⟨big_3 (i := 150) (by rfl) rfl, big_1 (i := 1) (by rfl) rfl, by decide +kernel⟩
theorem mi_X7_type : MI yX7_type := ⟨big_3 (i := 148) (by rfl) rfl, big_3 (i := 149) (by rfl) rfl⟩
theorem mw_X7_clearText : MW yX7_clearText cX7_clearText 1 (some .int) 0 := ⟨big_3 (i := 159) (by rfl) rfl, big_1 (i := 1) (by rfl) rfl, by decide +kernel⟩
theorem mi_X7_clearText : MI yX7_clearText := ⟨big_3 (i := 157) (by rfl) rfl, big_3 (i := 158) (by rfl) rfl⟩
theorem mw_X7_fault : MW yX7_fault cX7_fault 2 (some .int) 1 := ⟨big_3 (i := 167) (by rfl) rfl, big_1 (i := 1) (by rfl) rfl, by decide +kernel⟩
theorem mi_X7_fault : MI yX7_fault := ⟨big_3 (i := 165) (by rfl) rfl, big_3 (i := 166) (by rfl) rfl⟩
theorem mw_X7_play : MW yX7_play cX7_play 1 (some .int) 0 := ⟨big_3 (i := 205) (by rfl) rfl, big_1 (i := 1) (by rfl) rfl, by decide +kernel⟩
theorem mi_X7_play : MI yX7_play := ⟨big_3 (i := 203) (by rfl) rfl, big_3 (i := 204) (by rfl) rfl⟩
theorem mw_X7_startTrial : MW yX7_startTrial cX7_startTrial 1 none 0 := ⟨big_2 (i := 13) (by rfl) rfl, big_1 (i := 1) (by rfl) rfl, by decide +kernel⟩
theorem mi_X7_startTrial : MI yX7_startTrial := ⟨big_2 (i := 12) (by rfl) rfl, big_p (i := 0) (q := (yX7_startTrial, _)) (by rfl)⟩
theorem mw_X7_keepTrial : MW yX7_keepTrial cX7_keepTrial 2 (some .int) 1 := ⟨big_2 (i := 54) (by rfl) rfl, big_1 (i := 1) (by rfl) rfl, by decide +kernel⟩
theorem mi_X7_keepTrial : MI yX7_keepTrial := ⟨big_2 (i := 53) (by rfl) rfl, big_p (i := 1) (q := (yX7_keepTrial, _)) (by rfl)⟩
theorem mw_X7_within : MW yX7_within cX7_within 3 (some .boolean) 3 := ⟨big_2 (i := 82) (by rfl) rfl, big_1 (i := 1) (by rfl) rfl, by decide +kernel⟩
theorem ms_X7_within : Cond.static yX7_within ∈ BIG := big_2 (i := 81) (by rfl) rfl
theorem mw_X7_amountIn : MW yX7_amountIn cX7_amountIn 2 (some .int) 2 := ⟨big_2 (i := 145) (by rfl) rfl, big_1 (i := 1) (by rfl) rfl, by decide +kernel⟩
theorem ms_X7_amountIn : Cond.static yX7_amountIn ∈ BIG := big_2 (i := 144) (by rfl) rfl
theorem mw_X7_allAmountsIn : MW yX7_allAmountsIn cX7_allAmountsIn 1 (some .int) 1 := ⟨big_3 (i := 89) (by rfl) rfl, big_1 (i := 1) (by rfl) rfl, by decide +kernel⟩
theorem ms_X7_allAmountsIn : Cond.static yX7_allAmountsIn ∈ BIG := big_3 (i := 88) (by rfl) rfl
theorem mw_X7_glassOf : MW yX7_glassOf cX7_glassOf 2 (some .int) 2 := ⟨big_2 (i := 86) (by rfl) rfl, big_1 (i := 1) (by rfl) rfl, by decide +kernel⟩
theorem ms_X7_glassOf : Cond.static yX7_glassOf ∈ BIG := big_2 (i := 85) (by rfl) rfl
theorem mw_X7_playerWith : MW yX7_playerWith cX7_playerWith 1 (some .int) 1 := ⟨big_2 (i := 134) (by rfl) rfl, big_1 (i := 1) (by rfl) rfl, by decide +kernel⟩
theorem ms_X7_playerWith : Cond.static yX7_playerWith ∈ BIG := big_2 (i := 133) (by rfl) rfl
theorem mw_X7_toldOf : MW yX7_toldOf cX7_toldOf 1 (some .int) 1 := ⟨big_3 (i := 51) (by rfl) rfl, big_1 (i := 1) (by rfl) rfl, by decide +kernel⟩
theorem ms_X7_toldOf : Cond.static yX7_toldOf ∈ BIG := big_3 (i := 50) (by rfl) rfl
theorem mw_X7_bitsOfShare : MW yX7_bitsOfShare cX7_bitsOfShare 4 (some .int) 1 := ⟨big_3 (i := 107) (by rfl) rfl, big_1 (i := 1) (by rfl) rfl, by decide +kernel⟩
theorem ms_X7_bitsOfShare : Cond.static yX7_bitsOfShare ∈ BIG := big_3 (i := 106) (by rfl) rfl
theorem mw_X7_copyRow : MW yX7_copyRow cX7_copyRow 2 none 2 := ⟨big_2 (i := 24) (by rfl) rfl, big_1 (i := 1) (by rfl) rfl, by decide +kernel⟩
theorem ms_X7_copyRow : Cond.static yX7_copyRow ∈ BIG := big_2 (i := 23) (by rfl) rfl
theorem mw_X8_init : MW yX8_init cX8_init 1 none 0 := ⟨big_3 (i := 210) (by rfl) rfl, big_1 (i := 9) (by rfl) rfl, by decide +kernel⟩
theorem mj_X8_init : Cond.instanceMethod yX8_init ∈ BIG := big_3 (i := 209) (by rfl) rfl
theorem mw_X8_in : MW yX8_in cX8_in 3 (some .boolean) 3 := ⟨big_4 (i := 47) (by rfl) rfl, big_1 (i := 9) (by rfl) rfl, by decide +kernel⟩
theorem ms_X8_in : Cond.static yX8_in ∈ BIG := big_4 (i := 46) (by rfl) rfl
theorem mw_X8_copies : MW yX8_copies cX8_copies 3 none 2 := ⟨big_4 (i := 156) (by rfl) rfl, big_1 (i := 9) (by rfl) rfl, by decide +kernel⟩
theorem ms_X8_copies : Cond.static yX8_copies ∈ BIG := big_4 (i := 155) (by rfl) rfl
theorem mw_X8_changes : MW yX8_changes cX8_changes 2 none 0 := ⟨big_4 (i := 32) (by rfl) rfl, big_1 (i := 9) (by rfl) rfl, by decide +kernel⟩
theorem mi_X8_changes : MI yX8_changes := ⟨big_4 (i := 31) (by rfl) rfl, big_p (i := 12) (q := (yX8_changes, _)) (by rfl)⟩
theorem mw_X8_isPlayer : MW yX8_isPlayer cX8_isPlayer 2 (some .boolean) 1 := ⟨big_4 (i := 44) (by rfl) rfl, big_1 (i := 9) (by rfl) rfl, by decide +kernel⟩
theorem mi_X8_isPlayer : MI yX8_isPlayer := ⟨big_4 (i := 43) (by rfl) rfl, big_p (i := 14) (q := (yX8_isPlayer, _)) (by rfl)⟩
theorem mw_X8_isWorker : MW yX8_isWorker cX8_isWorker 3 (some .boolean) 2 := ⟨big_4 (i := 40) (by rfl) rfl, big_1 (i := 9) (by rfl) rfl, by decide +kernel⟩
theorem mi_X8_isWorker : MI yX8_isWorker := ⟨big_4 (i := 39) (by rfl) rfl, big_p (i := 13) (q := (yX8_isWorker, _)) (by rfl)⟩
theorem mw_X8_isTask : MW yX8_isTask cX8_isTask 2 (some .boolean) 1 := ⟨big_4 (i := 69) (by rfl) rfl, big_1 (i := 9) (by rfl) rfl, by decide +kernel⟩
theorem mi_X8_isTask : MI yX8_isTask := ⟨big_4 (i := 68) (by rfl) rfl, big_p (i := 16) (q := (yX8_isTask, _)) (by rfl)⟩
theorem mw_X8_isContract : MW yX8_isContract cX8_isContract 2 (some .boolean) 1 := ⟨big_4 (i := 128) (by rfl) rfl, big_1 (i := 9) (by rfl) rfl, by decide +kernel⟩
theorem mi_X8_isContract : MI yX8_isContract := ⟨big_4 (i := 127) (by rfl) rfl, big_p (i := 27) (q := (yX8_isContract, _)) (by rfl)⟩
theorem mw_X8_of : MW yX8_of cX8_of 3 (some .int) 2 := ⟨big_4 (i := 52) (by rfl) rfl, big_1 (i := 9) (by rfl) rfl, by decide +kernel⟩
theorem mi_X8_of : MI yX8_of := ⟨big_4 (i := 51) (by rfl) rfl, big_p (i := 15) (q := (yX8_of, _)) (by rfl)⟩
theorem mw_X8_ofTask : MW yX8_ofTask cX8_ofTask 3 (some .int) 2 := ⟨big_4 (i := 81) (by rfl) rfl, big_1 (i := 9) (by rfl) rfl, by decide +kernel⟩
theorem mi_X8_ofTask : MI yX8_ofTask := ⟨big_4 (i := 80) (by rfl) rfl, big_p (i := 19) (q := (yX8_ofTask, _)) (by rfl)⟩
theorem mw_X8_workers : MW yX8_workers cX8_workers 1 (some .int) 0 := ⟨big_4 (i := 85) (by rfl) rfl, big_1 (i := 9) (by rfl) rfl, by decide +kernel⟩
theorem mi_X8_workers : MI yX8_workers := ⟨big_4 (i := 84) (by rfl) rfl, big_p (i := 20) (q := (yX8_workers, _)) (by rfl)⟩
theorem mw_X8_amount : MW yX8_amount cX8_amount 2 (some .int) 2 := ⟨big_4 (i := 92) (by rfl) rfl, big_1 (i := 9) (by rfl) rfl, by decide +kernel⟩
theorem ms_X8_amount : Cond.static yX8_amount ∈ BIG := big_4 (i := 91) (by rfl) rfl
theorem mw_X8_has : MW yX8_has cX8_has 5 (some .boolean) 2 := ⟨big_4 (i := 89) (by rfl) rfl, big_1 (i := 9) (by rfl) rfl, by decide +kernel⟩
theorem mi_X8_has : MI yX8_has := ⟨big_4 (i := 88) (by rfl) rfl, big_p (i := 21) (q := (yX8_has, _)) (by rfl)⟩
theorem mw_X8_pays : MW yX8_pays cX8_pays 4 none 2 := ⟨big_4 (i := 100) (by rfl) rfl, big_1 (i := 9) (by rfl) rfl, by decide +kernel⟩
theorem mi_X8_pays : MI yX8_pays := ⟨big_4 (i := 99) (by rfl) rfl, big_p (i := 23) (q := (yX8_pays, _)) (by rfl)⟩
theorem mw_X8_player : MW yX8_player cX8_player 3 (some .int) 0 := ⟨big_4 (i := 27) (by rfl) rfl, big_1 (i := 9) (by rfl) rfl, by decide +kernel⟩
theorem mi_X8_player : MI yX8_player := ⟨big_4 (i := 25) (by rfl) rfl, big_4 (i := 26) (by rfl) rfl⟩
theorem mw_X8_size : MW yX8_size cX8_size 6 (some .int) 3 := ⟨big_4 (i := 36) (by rfl) rfl, big_1 (i := 9) (by rfl) rfl, by decide +kernel⟩
theorem mi_X8_size : MI yX8_size := ⟨big_4 (i := 34) (by rfl) rfl, big_4 (i := 35) (by rfl) rfl⟩
theorem mw_X8_task : MW yX8_task cX8_task 6 (some .int) 4 := ⟨big_4 (i := 57) (by rfl) rfl, big_1 (i := 9) (by rfl) rfl, by decide +kernel⟩
theorem mi_X8_task : MI yX8_task := ⟨big_4 (i := 55) (by rfl) rfl, big_4 (i := 56) (by rfl) rfl⟩
theorem mw_X8_contract : MW yX8_contract cX8_contract 4 (some .int) 2 := ⟨big_4 (i := 61) (by rfl) rfl, big_1 (i := 9) (by rfl) rfl, by decide +kernel⟩
theorem mi_X8_contract : MI yX8_contract := ⟨big_4 (i := 59) (by rfl) rfl, big_4 (i := 60) (by rfl) rfl⟩
theorem mw_X8_left : MW yX8_left cX8_left 4 (some .int) 1 := ⟨big_4 (i := 77) (by rfl) rfl, big_1 (i := 9) (by rfl) rfl, by decide +kernel⟩
theorem mi_X8_left : MI yX8_left := ⟨big_4 (i := 76) (by rfl) rfl, big_p (i := 18) (q := (yX8_left, _)) (by rfl)⟩
theorem mw_X8_canPut : MW yX8_canPut cX8_canPut 3 (some .boolean) 2 := ⟨big_4 (i := 73) (by rfl) rfl, big_1 (i := 9) (by rfl) rfl, by decide +kernel⟩
theorem mi_X8_canPut : MI yX8_canPut := ⟨big_4 (i := 72) (by rfl) rfl, big_p (i := 17) (q := (yX8_canPut, _)) (by rfl)⟩
theorem mw_X8_puts : MW yX8_puts cX8_puts 3 none 2 := ⟨big_4 (i := 96) (by rfl) rfl, big_1 (i := 9) (by rfl) rfl, by decide +kernel⟩
theorem mi_X8_puts : MI yX8_puts := ⟨big_4 (i := 95) (by rfl) rfl, big_p (i := 22) (q := (yX8_puts, _)) (by rfl)⟩
theorem mw_X8_put : MW yX8_put cX8_put 4 (some .int) 3 := ⟨big_4 (i := 65) (by rfl) rfl, big_1 (i := 9) (by rfl) rfl, by decide +kernel⟩
theorem mi_X8_put : MI yX8_put := ⟨big_4 (i := 63) (by rfl) rfl, big_4 (i := 64) (by rfl) rfl⟩
theorem mw_X8_home : MW yX8_home cX8_home 5 (some .int) 2 := ⟨big_4 (i := 104) (by rfl) rfl, big_1 (i := 9) (by rfl) rfl, by decide +kernel⟩
theorem mi_X8_home : MI yX8_home := ⟨big_4 (i := 102) (by rfl) rfl, big_4 (i := 103) (by rfl) rfl⟩
theorem mw_X8_flips : MW yX8_flips cX8_flips 2 none 1 := ⟨big_4 (i := 112) (by rfl) rfl, big_1 (i := 9) (by rfl) rfl, by decide +kernel⟩
theorem mi_X8_flips : MI yX8_flips := ⟨big_4 (i := 111) (by rfl) rfl, big_p (i := 24) (q := (yX8_flips, _)) (by rfl)⟩
theorem mw_X8_gains : MW yX8_gains cX8_gains 5 none 2 := ⟨big_4 (i := 120) (by rfl) rfl, big_1 (i := 9) (by rfl) rfl, by decide +kernel⟩
theorem mi_X8_gains : MI yX8_gains := ⟨big_4 (i := 119) (by rfl) rfl, big_p (i := 26) (q := (yX8_gains, _)) (by rfl)⟩
theorem mw_X8_works : MW yX8_works cX8_works 5 none 0 := ⟨big_4 (i := 116) (by rfl) rfl, big_1 (i := 9) (by rfl) rfl, by decide +kernel⟩
theorem mi_X8_works : MI yX8_works := ⟨big_4 (i := 115) (by rfl) rfl, big_p (i := 25) (q := (yX8_works, _)) (by rfl)⟩
theorem mw_X8_flip : MW yX8_flip cX8_flip 5 (some .int) 2 := ⟨big_4 (i := 108) (by rfl) rfl, big_1 (i := 9) (by rfl) rfl, by decide +kernel⟩
theorem mi_X8_flip : MI yX8_flip := ⟨big_4 (i := 106) (by rfl) rfl, big_4 (i := 107) (by rfl) rfl⟩
theorem mw_X8_buy : MW yX8_buy cX8_buy 5 (some .int) 2 := ⟨big_4 (i := 124) (by rfl) rfl, big_1 (i := 9) (by rfl) rfl, by decide +kernel⟩
theorem mi_X8_buy : MI yX8_buy := ⟨big_4 (i := 122) (by rfl) rfl, big_4 (i := 123) (by rfl) rfl⟩
theorem mw_X8_goes : MW yX8_goes cX8_goes 2 none 0 := ⟨big_4 (i := 136) (by rfl) rfl, big_1 (i := 9) (by rfl) rfl, by decide +kernel⟩
theorem mi_X8_goes : MI yX8_goes := ⟨big_4 (i := 135) (by rfl) rfl, big_p (i := 28) (q := (yX8_goes, _)) (by rfl)⟩
theorem mw_X8_pass : MW yX8_pass cX8_pass 4 (some .int) 1 := ⟨big_4 (i := 132) (by rfl) rfl, big_1 (i := 9) (by rfl) rfl, by decide +kernel⟩
theorem mi_X8_pass : MI yX8_pass := ⟨big_4 (i := 130) (by rfl) rfl, big_4 (i := 131) (by rfl) rfl⟩
theorem mw_X8_outs : MW yX8_outs cX8_outs 4 (some .int) 1 := ⟨big_4 (i := 144) (by rfl) rfl, big_1 (i := 9) (by rfl) rfl, by decide +kernel⟩
theorem mi_X8_outs : MI yX8_outs := ⟨big_4 (i := 143) (by rfl) rfl, big_p (i := 29) (q := (yX8_outs, _)) (by rfl)⟩
theorem mw_X8_waited : MW yX8_waited cX8_waited 2 (some .int) 1 := ⟨big_4 (i := 148) (by rfl) rfl, big_1 (i := 9) (by rfl) rfl, by decide +kernel⟩
theorem mi_X8_waited : MI yX8_waited := ⟨big_4 (i := 147) (by rfl) rfl, big_p (i := 30) (q := (yX8_waited, _)) (by rfl)⟩
theorem mw_X8_nextOut : MW yX8_nextOut cX8_nextOut 4 (some .int) 1 := ⟨big_4 (i := 152) (by rfl) rfl, big_1 (i := 9) (by rfl) rfl, by decide +kernel⟩
theorem mi_X8_nextOut : MI yX8_nextOut := ⟨big_4 (i := 151) (by rfl) rfl, big_p (i := 31) (q := (yX8_nextOut, _)) (by rfl)⟩
theorem mw_X8_playerOf : MW yX8_playerOf cX8_playerOf 3 (some .int) 2 := ⟨big_4 (i := 140) (by rfl) rfl, big_1 (i := 9) (by rfl) rfl, by decide +kernel⟩
theorem mi_X8_playerOf : MI yX8_playerOf := ⟨big_4 (i := 138) (by rfl) rfl, big_4 (i := 139) (by rfl) rfl⟩
theorem mw_X8_workerOf : MW yX8_workerOf cX8_workerOf 5 (some .int) 3 := ⟨big_4 (i := 160) (by rfl) rfl, big_1 (i := 9) (by rfl) rfl, by decide +kernel⟩
theorem mi_X8_workerOf : MI yX8_workerOf := ⟨big_4 (i := 158) (by rfl) rfl, big_4 (i := 159) (by rfl) rfl⟩
theorem mw_X8_taskOf : MW yX8_taskOf cX8_taskOf 3 (some .int) 2 := ⟨big_4 (i := 164) (by rfl) rfl, big_1 (i := 9) (by rfl) rfl, by decide +kernel⟩
theorem mi_X8_taskOf : MI yX8_taskOf := ⟨big_4 (i := 162) (by rfl) rfl, big_4 (i := 163) (by rfl) rfl⟩
theorem mw_X8_told : MW yX8_told cX8_told 1 (some .int) 1 := ⟨big_4 (i := 171) (by rfl) rfl, big_1 (i := 9) (by rfl) rfl, by decide +kernel⟩
theorem ms_X8_told : Cond.static yX8_told ∈ BIG := big_4 (i := 170) (by rfl) rfl
theorem mw_X8_on : MW yX8_on cX8_on 6 (some .int) 2 := ⟨big_4 (i := 168) (by rfl) rfl, big_1 (i := 9) (by rfl) rfl, by decide +kernel⟩
theorem mi_X8_on : MI yX8_on := ⟨big_4 (i := 166) (by rfl) rfl, big_4 (i := 167) (by rfl) rfl⟩
theorem mw_X8_contractOf : MW yX8_contractOf cX8_contractOf 5 (some .int) 2 := ⟨big_4 (i := 175) (by rfl) rfl, big_1 (i := 9) (by rfl) rfl, by decide +kernel⟩
theorem mi_X8_contractOf : MI yX8_contractOf := ⟨big_4 (i := 173) (by rfl) rfl, big_4 (i := 174) (by rfl) rfl⟩
theorem mw_X8_anySand : MW yX8_anySand cX8_anySand 3 (some .boolean) 0 := ⟨big_4 (i := 183) (by rfl) rfl, big_1 (i := 9) (by rfl) rfl, by decide +kernel⟩
theorem mi_X8_anySand : MI yX8_anySand := ⟨big_4 (i := 182) (by rfl) rfl, big_p (i := 32) (q := (yX8_anySand, _)) (by rfl)⟩
theorem mw_X8_next : MW yX8_next cX8_next 3 (some .int) 1 := ⟨big_4 (i := 179) (by rfl) rfl, big_1 (i := 9) (by rfl) rfl, by decide +kernel⟩
theorem mi_X8_next : MI yX8_next := ⟨big_4 (i := 177) (by rfl) rfl, big_4 (i := 178) (by rfl) rfl⟩
theorem mw_X8_would : MW yX8_would cX8_would 5 (some .int) 3 := ⟨big_4 (i := 187) (by rfl) rfl, big_1 (i := 9) (by rfl) rfl, by decide +kernel⟩
theorem mi_X8_would : MI yX8_would := ⟨big_4 (i := 185) (by rfl) rfl, big_4 (i := 186) (by rfl) rfl⟩
theorem mw_X8_sum : MW yX8_sum cX8_sum 2 (some .int) 1 := ⟨big_4 (i := 195) (by rfl) rfl, big_1 (i := 9) (by rfl) rfl, by decide +kernel⟩
theorem mi_X8_sum : MI yX8_sum := ⟨big_4 (i := 194) (by rfl) rfl, big_p (i := 33) (q := (yX8_sum, _)) (by rfl)⟩
theorem mw_X8_best : MW yX8_best cX8_best 9 (some .int) 3 := ⟨big_4 (i := 191) (by rfl) rfl, big_1 (i := 9) (by rfl) rfl, by decide +kernel⟩
theorem mi_X8_best : MI yX8_best := ⟨big_4 (i := 189) (by rfl) rfl, big_4 (i := 190) (by rfl) rfl⟩
theorem mw_X8_earns : MW yX8_earns cX8_earns 7 (some .int) 3 := ⟨big_4 (i := 199) (by rfl) rfl, big_1 (i := 9) (by rfl) rfl, by decide +kernel⟩
theorem mi_X8_earns : MI yX8_earns := ⟨big_4 (i := 197) (by rfl) rfl, big_4 (i := 198) (by rfl) rfl⟩
theorem mw_X8_busy : MW yX8_busy cX8_busy 5 (some .int) 2 := ⟨big_4 (i := 203) (by rfl) rfl, big_1 (i := 9) (by rfl) rfl, by decide +kernel⟩
theorem mi_X8_busy : MI yX8_busy := ⟨big_4 (i := 201) (by rfl) rfl, big_4 (i := 202) (by rfl) rfl⟩
theorem mw_X8_goods : MW yX8_goods cX8_goods 2 (some .int) 1 := ⟨big_4 (i := 225) (by rfl) rfl, big_1 (i := 9) (by rfl) rfl, by decide +kernel⟩
theorem mi_X8_goods : MI yX8_goods := ⟨big_4 (i := 224) (by rfl) rfl, big_p (i := 35) (q := (yX8_goods, _)) (by rfl)⟩
theorem mw_X8_ahead : MW yX8_ahead cX8_ahead 4 (some .int) 0 := ⟨big_4 (i := 221) (by rfl) rfl, big_1 (i := 9) (by rfl) rfl, by decide +kernel⟩
theorem mi_X8_ahead : MI yX8_ahead := ⟨big_4 (i := 220) (by rfl) rfl, big_p (i := 34) (q := (yX8_ahead, _)) (by rfl)⟩
theorem mw_X8_count : MW yX8_count cX8_count 2 (some .int) 1 := ⟨big_4 (i := 217) (by rfl) rfl, big_1 (i := 9) (by rfl) rfl, by decide +kernel⟩
theorem mi_X8_count : MI yX8_count := ⟨big_4 (i := 215) (by rfl) rfl, big_4 (i := 216) (by rfl) rfl⟩
theorem mw_X8_undo : MW yX8_undo cX8_undo 2 (some .int) 0 := ⟨big_4 (i := 229) (by rfl) rfl, big_1 (i := 9) (by rfl) rfl, by decide +kernel⟩
theorem mi_X8_undo : MI yX8_undo := ⟨big_4 (i := 227) (by rfl) rfl, big_4 (i := 228) (by rfl) rfl⟩
theorem mw_X8_type : MW yX8_type cX8_type 2 (some .int) 1 := ⟨big_4 (i := 233) (by rfl) rfl, big_1 (i := 9) (by rfl) rfl, by decide +kernel⟩
theorem mi_X8_type : MI yX8_type := ⟨big_4 (i := 231) (by rfl) rfl, big_4 (i := 232) (by rfl) rfl⟩
theorem mw_X8_clearText : MW yX8_clearText cX8_clearText 2 (some .int) 0 := ⟨big_4 (i := 237) (by rfl) rfl, big_1 (i := 9) (by rfl) rfl, by decide +kernel⟩
theorem mi_X8_clearText : MI yX8_clearText := ⟨big_4 (i := 235) (by rfl) rfl, big_4 (i := 236) (by rfl) rfl⟩
theorem mw_X8_isAt : MW yX8_isAt cX8_isAt 3 (some .boolean) 2 := ⟨big_5 (i := 13) (by rfl) rfl, big_1 (i := 9) (by rfl) rfl, by decide +kernel⟩
theorem mi_X8_isAt : MI yX8_isAt := ⟨big_5 (i := 12) (by rfl) rfl, big_p (i := 38) (q := (yX8_isAt, _)) (by rfl)⟩
theorem mw_X8_sign : MW yX8_sign cX8_sign 3 (some .boolean) 1 := ⟨big_5 (i := 24) (by rfl) rfl, big_1 (i := 9) (by rfl) rfl, by decide +kernel⟩
theorem mi_X8_sign : MI yX8_sign := ⟨big_5 (i := 23) (by rfl) rfl, big_p (i := 40) (q := (yX8_sign, _)) (by rfl)⟩
theorem mw_X8_number : MW yX8_number cX8_number 3 (some .boolean) 1 := ⟨big_5 (i := 20) (by rfl) rfl, big_1 (i := 9) (by rfl) rfl, by decide +kernel⟩
theorem mi_X8_number : MI yX8_number := ⟨big_5 (i := 19) (by rfl) rfl, big_p (i := 39) (q := (yX8_number, _)) (by rfl)⟩
theorem mw_X8_numbersOf : MW yX8_numbersOf cX8_numbersOf 1 (some .int) 1 := ⟨big_5 (i := 16) (by rfl) rfl, big_1 (i := 9) (by rfl) rfl, by decide +kernel⟩
theorem ms_X8_numbersOf : Cond.static yX8_numbersOf ∈ BIG := big_5 (i := 15) (by rfl) rfl
theorem mw_X8_reads : MW yX8_reads cX8_reads 4 (some .boolean) 0 := ⟨big_5 (i := 9) (by rfl) rfl, big_1 (i := 9) (by rfl) rfl, by decide +kernel⟩
theorem mi_X8_reads : MI yX8_reads := ⟨big_5 (i := 8) (by rfl) rfl, big_p (i := 37) (q := (yX8_reads, _)) (by rfl)⟩
theorem mw_X8_calls : MW yX8_calls cX8_calls 1 (some .int) 0 := ⟨big_5 (i := 28) (by rfl) rfl, big_1 (i := 9) (by rfl) rfl, by decide +kernel⟩
theorem mi_X8_calls : MI yX8_calls := ⟨big_5 (i := 27) (by rfl) rfl, big_p (i := 41) (q := (yX8_calls, _)) (by rfl)⟩
theorem mw_X8_plays : MW yX8_plays cX8_plays 4 (some .boolean) 0 := ⟨big_5 (i := 5) (by rfl) rfl, big_1 (i := 9) (by rfl) rfl, by decide +kernel⟩
theorem mi_X8_plays : MI yX8_plays := ⟨big_5 (i := 4) (by rfl) rfl, big_p (i := 36) (q := (yX8_plays, _)) (by rfl)⟩
theorem mw_X8_fault : MW yX8_fault cX8_fault 3 (some .int) 1 := ⟨big_5 (i := 1) (by rfl) rfl, big_1 (i := 9) (by rfl) rfl, by decide +kernel⟩
theorem mi_X8_fault : MI yX8_fault := ⟨big_4 (i := 239) (by rfl) rfl, big_5 (i := 0) (by rfl) rfl⟩
theorem mw_X8_play : MW yX8_play cX8_play 2 (some .int) 0 := ⟨big_5 (i := 38) (by rfl) rfl, big_1 (i := 9) (by rfl) rfl, by decide +kernel⟩
theorem mi_X8_play : MI yX8_play := ⟨big_5 (i := 36) (by rfl) rfl, big_5 (i := 37) (by rfl) rfl⟩
theorem math_max_s : Cond.static Lib.Math.max.name ∈ BIG := big_2 (i := 231) (by rfl) rfl
theorem math_max_c : Cond.code Lib.Math.max.name Lib.Math.max.code 2 (some .int) ∈ BIG := big_2 (i := 232) (by decide +kernel) rfl
theorem math_min_s : Cond.static Lib.Math.min.name ∈ BIG := big_2 (i := 26) (by rfl) rfl
theorem math_min_c : Cond.code Lib.Math.min.name Lib.Math.min.code 2 (some .int) ∈ BIG := big_2 (i := 27) (by decide +kernel) rfl
theorem math_i : Cond.initialized "java/lang/Math" ∈ BIG := big_1 (i := 10) (by rfl) rfl
theorem nl_X0_22 : (RX0, 22, yX7_copyRow, RX7) ∈ nwl := by simp [nwl]
theorem nl_X1_63 : (RX1, 63, yX7_within, RX7) ∈ nwl := by simp [nwl]
theorem nl_X1_79 : (RX1, 79, yX7_glassOf, RX7) ∈ nwl := by simp [nwl]
theorem nl_X1_118 : (RX1, 118, yX7_playerWith, RX7) ∈ nwl := by simp [nwl]
theorem nl_X2_37 : (RX2, 37, yX7_copyRow, RX7) ∈ nwl := by simp [nwl]
theorem nl_X2_54 : (RX2, 54, yX7_glassOf, RX7) ∈ nwl := by simp [nwl]
theorem nl_X4_60 : (RX4, 60, yX7_within, RX7) ∈ nwl := by simp [nwl]
theorem nl_X5_25 : (RX5, 25, yX7_copyRow, RX7) ∈ nwl := by simp [nwl]
theorem nl_X5_33 : (RX5, 33, yX7_amountIn, RX7) ∈ nwl := by simp [nwl]
theorem nl_X6_31 : (RX6, 31, yX7_copyRow, RX7) ∈ nwl := by simp [nwl]
theorem nl_X6_35 : (RX6, 35, yX7_allAmountsIn, RX7) ∈ nwl := by simp [nwl]
theorem ml_X7_273 : Cond.methodLink RX7 273 Lib.Math.min.name ∈ BIG := big_2 (i := 25) (by rfl) rfl
theorem ml_X1_164 : Cond.methodLink RX1 164 Lib.Math.min.name ∈ BIG := big_2 (i := 229) (by rfl) rfl
theorem ml_X1_169 : Cond.methodLink RX1 169 Lib.Math.max.name ∈ BIG := big_2 (i := 230) (by rfl) rfl
theorem ml_X5_40 : Cond.methodLink RX5 40 Lib.Math.min.name ∈ BIG := big_2 (i := 186) (by rfl) rfl
end
section
theorem dX7_within_0 : decode cX7_within 0 = .ok (.iload_n 0, 1) := by decide +kernel
theorem dX7_within_1 : decode cX7_within 1 = .ok (.iload_n 1, 1) := by decide +kernel
theorem dX7_within_2 : decode cX7_within 2 = .ok (.if_icmp .lt 12, 3) := by decide +kernel
theorem dX7_within_5 : decode cX7_within 5 = .ok (.iload_n 0, 1) := by decide +kernel
theorem dX7_within_6 : decode cX7_within 6 = .ok (.iload_n 2, 1) := by decide +kernel
theorem dX7_within_7 : decode cX7_within 7 = .ok (.if_icmp .gt 7, 3) := by decide +kernel
theorem dX7_within_10 : decode cX7_within 10 = .ok (.iconst 1, 1) := by decide +kernel
theorem dX7_within_11 : decode cX7_within 11 = .ok (.goto 4, 3) := by decide +kernel
theorem dX7_within_14 : decode cX7_within 14 = .ok (.iconst 0, 1) := by decide +kernel
theorem dX7_within_15 : decode cX7_within 15 = .ok (.ireturn, 1) := by decide +kernel
def vc_X7_within (Q : Int32 → Prop) (x0 : Int32) (x1 : Int32) (x2 : Int32) : Prop :=
  ((x0 < x1) → (Q 0 )) ∧ ((¬ x0 < x1) → (((x2 < x0) → (Q 0 )) ∧ ((¬ x2 < x0) → (Q 1 ))))
set_option maxHeartbeats 8000000 in
set_option maxRecDepth 100000 in
theorem m_X7_within (l : Launch) (G : GG) (x0 : Int32) (x1 : Int32) (x2 : Int32) (Q : Int32 → Prop) (h : vc_X7_within Q x0 x1 x2) : CtI l yX7_within cX7_within 3 (some .boolean) { frames := 0, cells := 0, slots := 0, locals := 0 } [.int x0, .int x1, .int x2] G (fun H => True) (fun r (_ : Unit) => Q r) (fun _ _ => True) (fun _ => False) := by
  unfold CtI
  refine met_start (y := yX7_within) (maxL := 3) (av := [.int x0, .int x1, .int x2]) (G := G) (P := fun H => True) (by decide) rfl (Nat.le_of_ble_eq_true rfl) (fun p e s m below meth c ls C hr hP hK hl => ?_)
  obtain ⟨hx, hb, hml, hown, hts, hlocks⟩ := id C
  have hS : va_S (fun _ => False) s.heap s.heap [] := va_S.rf
  have hl : lv_has ls 3 [(0, .int x0), (1, .int x1), (2, .int x2)] := hl
  unfold vc_X7_within at h
  refine lv_iload_n hx hb dX7_within_0 rfl (lv_at hl 0 rfl) ?_
  refine lv_iload_n hx hb dX7_within_1 rfl (lv_at hl 1 rfl) ?_
  refine lv_icmp_lt (tgt := 14) hx hb dX7_within_2 (by decide) (fun c1 => ?_) (fun c1 => ?_)
  · replace h := h.1 c1
    refine lv_iconst (v := 0) hx hb dX7_within_14 (by decide) ?_
    exact g_zret (post := fun r (_ : Unit) => Q r) (P' := fun _ _ => True) (r := 0) (u := ()) C hr hK hS (by rfl) h trivial dX7_within_15
  · replace h := h.2 c1
    refine lv_iload_n hx hb dX7_within_5 rfl (lv_at hl 0 rfl) ?_
    refine lv_iload_n hx hb dX7_within_6 rfl (lv_at hl 2 rfl) ?_
    refine lv_icmp_gt (tgt := 14) hx hb dX7_within_7 (by decide) (fun c2 => ?_) (fun c2 => ?_)
    · replace h := h.1 c2
      refine lv_iconst (v := 0) hx hb dX7_within_14 (by decide) ?_
      exact g_zret (post := fun r (_ : Unit) => Q r) (P' := fun _ _ => True) (r := 0) (u := ()) C hr hK hS (by rfl) h trivial dX7_within_15
    · replace h := h.2 c2
      refine lv_iconst (v := 1) hx hb dX7_within_10 (by decide) ?_
      refine lv_goto (tgt := 15) hx hb dX7_within_11 (by decide) ?_
      exact g_zret (post := fun r (_ : Unit) => Q r) (P' := fun _ _ => True) (r := 1) (u := ()) C hr hK hS (by rfl) h trivial dX7_within_15
theorem dX7_amountIn_0 : decode cX7_amountIn 0 = .ok (.iload_n 1, 1) := by decide +kernel
theorem dX7_amountIn_1 : decode cX7_amountIn 1 = .ok (.lookupswitch 40 #[(0, 27), (1, 32)], 27) := by decide +kernel
theorem dX7_amountIn_28 : decode cX7_amountIn 28 = .ok (.iload_n 0, 1) := by decide +kernel
theorem dX7_amountIn_29 : decode cX7_amountIn 29 = .ok (.bipush 100, 2) := by decide +kernel
theorem dX7_amountIn_31 : decode cX7_amountIn 31 = .ok (.idiv, 1) := by decide +kernel
theorem dX7_amountIn_32 : decode cX7_amountIn 32 = .ok (.ireturn, 1) := by decide +kernel
theorem dX7_amountIn_33 : decode cX7_amountIn 33 = .ok (.iload_n 0, 1) := by decide +kernel
theorem dX7_amountIn_34 : decode cX7_amountIn 34 = .ok (.bipush 10, 2) := by decide +kernel
theorem dX7_amountIn_36 : decode cX7_amountIn 36 = .ok (.idiv, 1) := by decide +kernel
theorem dX7_amountIn_37 : decode cX7_amountIn 37 = .ok (.bipush 10, 2) := by decide +kernel
theorem dX7_amountIn_39 : decode cX7_amountIn 39 = .ok (.irem, 1) := by decide +kernel
theorem dX7_amountIn_40 : decode cX7_amountIn 40 = .ok (.ireturn, 1) := by decide +kernel
theorem dX7_amountIn_41 : decode cX7_amountIn 41 = .ok (.iload_n 0, 1) := by decide +kernel
theorem dX7_amountIn_42 : decode cX7_amountIn 42 = .ok (.bipush 10, 2) := by decide +kernel
theorem dX7_amountIn_44 : decode cX7_amountIn 44 = .ok (.irem, 1) := by decide +kernel
theorem dX7_amountIn_45 : decode cX7_amountIn 45 = .ok (.ireturn, 1) := by decide +kernel
def vc_X7_amountIn (Q : Int32 → Prop) (x0 : Int32) (x1 : Int32) : Prop :=
  ((x1 = 0) → (Q (x0 / 100) )) ∧ ((¬ x1 = 0) → (((x1 = 1) → (Q ((x0 / 10) - (x0 / 10) / 10 * 10) )) ∧ ((¬ x1 = 1) → (Q (x0 - x0 / 10 * 10) ))))
set_option maxHeartbeats 8000000 in
set_option maxRecDepth 100000 in
theorem m_X7_amountIn (l : Launch) (G : GG) (x0 : Int32) (x1 : Int32) (Q : Int32 → Prop) (h : vc_X7_amountIn Q x0 x1) : CtI l yX7_amountIn cX7_amountIn 2 (some .int) { frames := 0, cells := 0, slots := 0, locals := 0 } [.int x0, .int x1] G (fun H => True) (fun r (_ : Unit) => Q r) (fun _ _ => True) (fun _ => False) := by
  unfold CtI
  refine met_start (y := yX7_amountIn) (maxL := 2) (av := [.int x0, .int x1]) (G := G) (P := fun H => True) (by decide) rfl (Nat.le_of_ble_eq_true rfl) (fun p e s m below meth c ls C hr hP hK hl => ?_)
  obtain ⟨hx, hb, hml, hown, hts, hlocks⟩ := id C
  have hS : va_S (fun _ => False) s.heap s.heap [] := va_S.rf
  have hl : lv_has ls 2 [(0, .int x0), (1, .int x1)] := hl
  unfold vc_X7_amountIn at h
  refine lv_iload_n hx hb dX7_amountIn_0 rfl (lv_at hl 1 rfl) ?_
  by_cases c1 : x1 = 0
  · replace h := h.1 c1
    refine lv_lookup (off := 27) (tgt := 28) hx hb dX7_amountIn_1 (by decide) (by rw [c1]; rfl) (by decide) ?_
    refine lv_iload_n hx hb dX7_amountIn_28 rfl (lv_at hl 0 rfl) ?_
    refine lv_bipush (v := 100) hx hb dX7_amountIn_29 (by decide) ?_
    refine lv_idiv hx hb dX7_amountIn_31 (by decide) ?_
    exact g_iret (post := fun r (_ : Unit) => Q r) (P' := fun _ _ => True) (r := (x0 / 100)) (u := ()) C hr hK hS h trivial dX7_amountIn_32
  · replace h := h.2 c1
    by_cases c2 : x1 = 1
    · replace h := h.1 c2
      refine lv_lookup (off := 32) (tgt := 33) hx hb dX7_amountIn_1 (by decide) (by rw [c2]; rfl) (by decide) ?_
      refine lv_iload_n hx hb dX7_amountIn_33 rfl (lv_at hl 0 rfl) ?_
      refine lv_bipush (v := 10) hx hb dX7_amountIn_34 (by decide) ?_
      refine lv_idiv hx hb dX7_amountIn_36 (by decide) ?_
      refine lv_bipush (v := 10) hx hb dX7_amountIn_37 (by decide) ?_
      refine lv_irem hx hb dX7_amountIn_39 (by decide) ?_
      exact g_iret (post := fun r (_ : Unit) => Q r) (P' := fun _ _ => True) (r := ((x0 / 10) - (x0 / 10) / 10 * 10)) (u := ()) C hr hK hS h trivial dX7_amountIn_40
    · replace h := h.2 c2
      refine lv_lookup (off := 40) (tgt := 41) hx hb dX7_amountIn_1 (by decide) (by simp only [List.toList_toArray]; rw [lv_osw c1 (by rfl), lv_osw c2 (by rfl)]; rfl) (by decide) ?_
      refine lv_iload_n hx hb dX7_amountIn_41 rfl (lv_at hl 0 rfl) ?_
      refine lv_bipush (v := 10) hx hb dX7_amountIn_42 (by decide) ?_
      refine lv_irem hx hb dX7_amountIn_44 (by decide) ?_
      exact g_iret (post := fun r (_ : Unit) => Q r) (P' := fun _ _ => True) (r := (x0 - x0 / 10 * 10)) (u := ()) C hr hK hS h trivial dX7_amountIn_45
theorem dX7_allAmountsIn_0 : decode cX7_allAmountsIn 0 = .ok (.iload_n 0, 1) := by decide +kernel
theorem dX7_allAmountsIn_1 : decode cX7_allAmountsIn 1 = .ok (.iconst 0, 1) := by decide +kernel
theorem dX7_allAmountsIn_2 : decode cX7_allAmountsIn 2 = .ok (.invokestatic 265, 3) := by decide +kernel
theorem dX7_allAmountsIn_5 : decode cX7_allAmountsIn 5 = .ok (.iload_n 0, 1) := by decide +kernel
theorem dX7_allAmountsIn_6 : decode cX7_allAmountsIn 6 = .ok (.iconst 1, 1) := by decide +kernel
theorem dX7_allAmountsIn_7 : decode cX7_allAmountsIn 7 = .ok (.invokestatic 265, 3) := by decide +kernel
theorem dX7_allAmountsIn_10 : decode cX7_allAmountsIn 10 = .ok (.iadd, 1) := by decide +kernel
theorem dX7_allAmountsIn_11 : decode cX7_allAmountsIn 11 = .ok (.iload_n 0, 1) := by decide +kernel
theorem dX7_allAmountsIn_12 : decode cX7_allAmountsIn 12 = .ok (.iconst 2, 1) := by decide +kernel
theorem dX7_allAmountsIn_13 : decode cX7_allAmountsIn 13 = .ok (.invokestatic 265, 3) := by decide +kernel
theorem dX7_allAmountsIn_16 : decode cX7_allAmountsIn 16 = .ok (.iadd, 1) := by decide +kernel
theorem dX7_allAmountsIn_17 : decode cX7_allAmountsIn 17 = .ok (.ireturn, 1) := by decide +kernel
def vc_X7_allAmountsIn (Q : Int32 → Prop) (x0 : Int32) : Prop :=
  vc_X7_amountIn (fun r1 => vc_X7_amountIn (fun r2 => vc_X7_amountIn (fun r3 => Q ((r1 + r2) + r3) ) x0 2) x0 1) x0 0
set_option maxHeartbeats 8000000 in
set_option maxRecDepth 100000 in
theorem m_X7_allAmountsIn (l : Launch) (G : GG) (x0 : Int32) (Q : Int32 → Prop) (h : vc_X7_allAmountsIn Q x0) : CtI l yX7_allAmountsIn cX7_allAmountsIn 1 (some .int) { frames := 1, cells := 0, slots := 0, locals := 21 } [.int x0] G (fun H => True) (fun r (_ : Unit) => Q r) (fun _ _ => True) (fun _ => False) := by
  unfold CtI
  refine met_start (y := yX7_allAmountsIn) (maxL := 1) (av := [.int x0]) (G := G) (P := fun H => True) (by decide) rfl (Nat.le_of_ble_eq_true rfl) (fun p e s m below meth c ls C hr hP hK hl => ?_)
  obtain ⟨hx, hb, hml, hown, hts, hlocks⟩ := id C
  have hS : va_S (fun _ => False) s.heap s.heap [] := va_S.rf
  have hl : lv_has ls 1 [(0, .int x0)] := hl
  unfold vc_X7_allAmountsIn at h
  refine lv_iload_n hx hb dX7_allAmountsIn_0 rfl (lv_at hl 0 rfl) ?_
  refine lv_iconst (v := 0) hx hb dX7_allAmountsIn_1 (by decide) ?_
  refine g_sI C hK hl.1 (m_X7_amountIn l G x0 0 _ h) mw_X7_amountIn ms_X7_amountIn ml_X7_265 rfl ⟨rfl, rfl, Nat.le_of_ble_eq_true rfl, Nat.le_of_ble_eq_true rfl⟩ ⟨Nat.zero_le _, Nat.zero_le _⟩ trivial hS (fun _ h => h.elim) rfl (Nat.le_of_ble_eq_true rfl) dX7_allAmountsIn_2 (fun r1 u H locs h hu _ hq hS => ?_)
  refine lv_iload_n hx hb dX7_allAmountsIn_5 rfl (lv_at hl 0 rfl) ?_
  refine lv_iconst (v := 1) hx hb dX7_allAmountsIn_6 (by decide) ?_
  refine g_sI C hK hl.1 (m_X7_amountIn l G x0 1 _ h) mw_X7_amountIn ms_X7_amountIn ml_X7_265 rfl ⟨rfl, rfl, Nat.le_of_ble_eq_true rfl, Nat.le_of_ble_eq_true rfl⟩ ⟨Nat.zero_le _, Nat.zero_le _⟩ trivial hS (fun _ h => h.elim) rfl (Nat.le_of_ble_eq_true rfl) dX7_allAmountsIn_7 (fun r2 u H locs h hu _ hq hS => ?_)
  refine lv_iadd hx hb dX7_allAmountsIn_10 ?_
  refine lv_iload_n hx hb dX7_allAmountsIn_11 rfl (lv_at hl 0 rfl) ?_
  refine lv_iconst (v := 2) hx hb dX7_allAmountsIn_12 (by decide) ?_
  refine g_sI C hK hl.1 (m_X7_amountIn l G x0 2 _ h) mw_X7_amountIn ms_X7_amountIn ml_X7_265 rfl ⟨rfl, rfl, Nat.le_of_ble_eq_true rfl, Nat.le_of_ble_eq_true rfl⟩ ⟨Nat.zero_le _, Nat.zero_le _⟩ trivial hS (fun _ h => h.elim) rfl (Nat.le_of_ble_eq_true rfl) dX7_allAmountsIn_13 (fun r3 u H locs h hu _ hq hS => ?_)
  refine lv_iadd hx hb dX7_allAmountsIn_16 ?_
  exact g_iret (post := fun r (_ : Unit) => Q r) (P' := fun _ _ => True) (r := ((r1 + r2) + r3)) (u := ()) C hr hK hS h trivial dX7_allAmountsIn_17
theorem dX7_glassOf_0 : decode cX7_glassOf 0 = .ok (.iconst 3, 1) := by decide +kernel
theorem dX7_glassOf_1 : decode cX7_glassOf 1 = .ok (.iload_n 0, 1) := by decide +kernel
theorem dX7_glassOf_2 : decode cX7_glassOf 2 = .ok (.imul, 1) := by decide +kernel
theorem dX7_glassOf_3 : decode cX7_glassOf 3 = .ok (.iload_n 1, 1) := by decide +kernel
theorem dX7_glassOf_4 : decode cX7_glassOf 4 = .ok (.iadd, 1) := by decide +kernel
theorem dX7_glassOf_5 : decode cX7_glassOf 5 = .ok (.ireturn, 1) := by decide +kernel
def vc_X7_glassOf (Q : Int32 → Prop) (x0 : Int32) (x1 : Int32) : Prop :=
  Q ((3 * x0) + x1) 
set_option maxHeartbeats 8000000 in
set_option maxRecDepth 100000 in
theorem m_X7_glassOf (l : Launch) (G : GG) (x0 : Int32) (x1 : Int32) (Q : Int32 → Prop) (h : vc_X7_glassOf Q x0 x1) : CtI l yX7_glassOf cX7_glassOf 2 (some .int) { frames := 0, cells := 0, slots := 0, locals := 0 } [.int x0, .int x1] G (fun H => True) (fun r (_ : Unit) => Q r) (fun _ _ => True) (fun _ => False) := by
  unfold CtI
  refine met_start (y := yX7_glassOf) (maxL := 2) (av := [.int x0, .int x1]) (G := G) (P := fun H => True) (by decide) rfl (Nat.le_of_ble_eq_true rfl) (fun p e s m below meth c ls C hr hP hK hl => ?_)
  obtain ⟨hx, hb, hml, hown, hts, hlocks⟩ := id C
  have hS : va_S (fun _ => False) s.heap s.heap [] := va_S.rf
  have hl : lv_has ls 2 [(0, .int x0), (1, .int x1)] := hl
  unfold vc_X7_glassOf at h
  refine lv_iconst (v := 3) hx hb dX7_glassOf_0 (by decide) ?_
  refine lv_iload_n hx hb dX7_glassOf_1 rfl (lv_at hl 0 rfl) ?_
  refine lv_imul hx hb dX7_glassOf_2 ?_
  refine lv_iload_n hx hb dX7_glassOf_3 rfl (lv_at hl 1 rfl) ?_
  refine lv_iadd hx hb dX7_glassOf_4 ?_
  exact g_iret (post := fun r (_ : Unit) => Q r) (P' := fun _ _ => True) (r := ((3 * x0) + x1)) (u := ()) C hr hK hS h trivial dX7_glassOf_5
theorem dX7_playerWith_0 : decode cX7_playerWith 0 = .ok (.iload_n 0, 1) := by decide +kernel
theorem dX7_playerWith_1 : decode cX7_playerWith 1 = .ok (.iconst 3, 1) := by decide +kernel
theorem dX7_playerWith_2 : decode cX7_playerWith 2 = .ok (.idiv, 1) := by decide +kernel
theorem dX7_playerWith_3 : decode cX7_playerWith 3 = .ok (.ireturn, 1) := by decide +kernel
def vc_X7_playerWith (Q : Int32 → Prop) (x0 : Int32) : Prop :=
  Q (x0 / 3) 
set_option maxHeartbeats 8000000 in
set_option maxRecDepth 100000 in
theorem m_X7_playerWith (l : Launch) (G : GG) (x0 : Int32) (Q : Int32 → Prop) (h : vc_X7_playerWith Q x0) : CtI l yX7_playerWith cX7_playerWith 1 (some .int) { frames := 0, cells := 0, slots := 0, locals := 0 } [.int x0] G (fun H => True) (fun r (_ : Unit) => Q r) (fun _ _ => True) (fun _ => False) := by
  unfold CtI
  refine met_start (y := yX7_playerWith) (maxL := 1) (av := [.int x0]) (G := G) (P := fun H => True) (by decide) rfl (Nat.le_of_ble_eq_true rfl) (fun p e s m below meth c ls C hr hP hK hl => ?_)
  obtain ⟨hx, hb, hml, hown, hts, hlocks⟩ := id C
  have hS : va_S (fun _ => False) s.heap s.heap [] := va_S.rf
  have hl : lv_has ls 1 [(0, .int x0)] := hl
  unfold vc_X7_playerWith at h
  refine lv_iload_n hx hb dX7_playerWith_0 rfl (lv_at hl 0 rfl) ?_
  refine lv_iconst (v := 3) hx hb dX7_playerWith_1 (by decide) ?_
  refine lv_idiv hx hb dX7_playerWith_2 (by decide) ?_
  exact g_iret (post := fun r (_ : Unit) => Q r) (P' := fun _ _ => True) (r := (x0 / 3)) (u := ()) C hr hK hS h trivial dX7_playerWith_3
theorem dX7_toldOf_0 : decode cX7_toldOf 0 = .ok (.bipush 10, 2) := by decide +kernel
theorem dX7_toldOf_2 : decode cX7_toldOf 2 = .ok (.iload_n 0, 1) := by decide +kernel
theorem dX7_toldOf_3 : decode cX7_toldOf 3 = .ok (.invokestatic 268, 3) := by decide +kernel
theorem dX7_toldOf_6 : decode cX7_toldOf 6 = .ok (.imul, 1) := by decide +kernel
theorem dX7_toldOf_7 : decode cX7_toldOf 7 = .ok (.iload_n 0, 1) := by decide +kernel
theorem dX7_toldOf_8 : decode cX7_toldOf 8 = .ok (.iconst 3, 1) := by decide +kernel
theorem dX7_toldOf_9 : decode cX7_toldOf 9 = .ok (.irem, 1) := by decide +kernel
theorem dX7_toldOf_10 : decode cX7_toldOf 10 = .ok (.iadd, 1) := by decide +kernel
theorem dX7_toldOf_11 : decode cX7_toldOf 11 = .ok (.ireturn, 1) := by decide +kernel
def vc_X7_toldOf (Q : Int32 → Prop) (x0 : Int32) : Prop :=
  vc_X7_playerWith (fun r1 => Q ((10 * r1) + (x0 - x0 / 3 * 3)) ) x0
set_option maxHeartbeats 8000000 in
set_option maxRecDepth 100000 in
theorem m_X7_toldOf (l : Launch) (G : GG) (x0 : Int32) (Q : Int32 → Prop) (h : vc_X7_toldOf Q x0) : CtI l yX7_toldOf cX7_toldOf 1 (some .int) { frames := 1, cells := 0, slots := 0, locals := 20 } [.int x0] G (fun H => True) (fun r (_ : Unit) => Q r) (fun _ _ => True) (fun _ => False) := by
  unfold CtI
  refine met_start (y := yX7_toldOf) (maxL := 1) (av := [.int x0]) (G := G) (P := fun H => True) (by decide) rfl (Nat.le_of_ble_eq_true rfl) (fun p e s m below meth c ls C hr hP hK hl => ?_)
  obtain ⟨hx, hb, hml, hown, hts, hlocks⟩ := id C
  have hS : va_S (fun _ => False) s.heap s.heap [] := va_S.rf
  have hl : lv_has ls 1 [(0, .int x0)] := hl
  unfold vc_X7_toldOf at h
  refine lv_bipush (v := 10) hx hb dX7_toldOf_0 (by decide) ?_
  refine lv_iload_n hx hb dX7_toldOf_2 rfl (lv_at hl 0 rfl) ?_
  refine g_sI C hK hl.1 (m_X7_playerWith l G x0 _ h) mw_X7_playerWith ms_X7_playerWith ml_X7_268 rfl ⟨rfl, rfl, Nat.le_of_ble_eq_true rfl, Nat.le_of_ble_eq_true rfl⟩ ⟨Nat.zero_le _, Nat.zero_le _⟩ trivial hS (fun _ h => h.elim) rfl (Nat.le_of_ble_eq_true rfl) dX7_toldOf_3 (fun r1 u H locs h hu _ hq hS => ?_)
  refine lv_imul hx hb dX7_toldOf_6 ?_
  refine lv_iload_n hx hb dX7_toldOf_7 rfl (lv_at hl 0 rfl) ?_
  refine lv_iconst (v := 3) hx hb dX7_toldOf_8 (by decide) ?_
  refine lv_irem hx hb dX7_toldOf_9 (by decide) ?_
  refine lv_iadd hx hb dX7_toldOf_10 ?_
  exact g_iret (post := fun r (_ : Unit) => Q r) (P' := fun _ _ => True) (r := ((10 * r1) + (x0 - x0 / 3 * 3))) (u := ()) C hr hK hS h trivial dX7_toldOf_11
theorem dX5_amountOf_0 : decode cX5_amountOf 0 = .ok (.aload_n 0, 1) := by decide +kernel
theorem dX5_amountOf_1 : decode cX5_amountOf 1 = .ok (.getfield 9, 3) := by decide +kernel
theorem dX5_amountOf_4 : decode cX5_amountOf 4 = .ok (.iconst 3, 1) := by decide +kernel
theorem dX5_amountOf_5 : decode cX5_amountOf 5 = .ok (.iload_n 1, 1) := by decide +kernel
theorem dX5_amountOf_6 : decode cX5_amountOf 6 = .ok (.imul, 1) := by decide +kernel
theorem dX5_amountOf_7 : decode cX5_amountOf 7 = .ok (.iload_n 2, 1) := by decide +kernel
theorem dX5_amountOf_8 : decode cX5_amountOf 8 = .ok (.iadd, 1) := by decide +kernel
theorem dX5_amountOf_9 : decode cX5_amountOf 9 = .ok (.iaload, 1) := by decide +kernel
theorem dX5_amountOf_10 : decode cX5_amountOf 10 = .ok (.ireturn, 1) := by decide +kernel
def vc_X5_amountOf (Q : Int32 → Prop) (γ : Mem) (x1 : Int32) (x2 : Int32) : Prop :=
  vp_in ((3 * x1) + x2) 12 ∧ (Q (γ 2 ((3 * x1) + x2).toNatClampNeg) )
set_option maxHeartbeats 8000000 in
set_option maxRecDepth 100000 in
theorem m_X5_amountOf (l : Launch) (G : GG) (aG : Nat) (γ : Mem) (x1 : Int32) (x2 : Int32) (Q : Int32 → Prop) (h : vc_X5_amountOf Q γ x1 x2) : CtI l yX5_amountOf cX5_amountOf 3 (some .int) { frames := 0, cells := 0, slots := 0, locals := 0 } [.ref (aG + 1), .int x1, .int x2] G (fun H => rg G LG aG γ H) (fun r (_ : Unit) => Q r) (fun _ _ => True) (fun _ => False) := by
  unfold CtI
  refine met_start (y := yX5_amountOf) (maxL := 3) (av := [.ref (aG + 1), .int x1, .int x2]) (G := G) (P := fun H => rg G LG aG γ H) (by decide) rfl (Nat.le_of_ble_eq_true rfl) (fun p e s m below meth c ls C hr hP hK hl => ?_)
  obtain ⟨hx, hb, hml, hown, hts, hlocks⟩ := id C
  have hG : rg G LG aG γ s.heap := hP
  have hS : va_S (fun _ => False) s.heap s.heap [] := va_S.rf
  have hl : lv_has ls 3 [(0, .ref (aG + 1)), (1, .int x1), (2, .int x2)] := hl
  unfold vc_X5_amountOf at h
  refine lv_aload_n hx hb dX5_amountOf_0 rfl (lv_at hl 0 rfl) ?_
  refine g_getR (a := aG) (k := 1) (o := 2) C hK hG fl_X5_9 rfl rfl dX5_amountOf_1 ?_
  refine lv_iconst (v := 3) hx hb dX5_amountOf_4 (by decide) ?_
  refine lv_iload_n hx hb dX5_amountOf_5 rfl (lv_at hl 1 rfl) ?_
  refine lv_imul hx hb dX5_amountOf_6 ?_
  refine lv_iload_n hx hb dX5_amountOf_7 rfl (lv_at hl 2 rfl) ?_
  refine lv_iadd hx hb dX5_amountOf_8 ?_
  obtain ⟨b1, h⟩ := h
  refine g_ald (a := aG) (k := 2) (n := 12) C hK hG rfl b1 dX5_amountOf_9 ?_
  exact g_iret (post := fun r (_ : Unit) => Q r) (P' := fun _ _ => True) (r := (γ 2 ((3 * x1) + x2).toNatClampNeg)) (u := ()) C hr hK hS h trivial dX5_amountOf_10
theorem dX5_have_0 : decode cX5_have 0 = .ok (.iconst 0, 1) := by decide +kernel
theorem dX5_have_1 : decode cX5_have 1 = .ok (.istore_n 3, 1) := by decide +kernel
theorem dX5_have_2 : decode cX5_have 2 = .ok (.iload_n 3, 1) := by decide +kernel
theorem dX5_have_3 : decode cX5_have 3 = .ok (.iconst 3, 1) := by decide +kernel
theorem dX5_have_4 : decode cX5_have 4 = .ok (.if_icmp .ge 25, 3) := by decide +kernel
theorem dX5_have_7 : decode cX5_have 7 = .ok (.aload_n 0, 1) := by decide +kernel
theorem dX5_have_8 : decode cX5_have 8 = .ok (.iload_n 1, 1) := by decide +kernel
theorem dX5_have_9 : decode cX5_have 9 = .ok (.iload_n 3, 1) := by decide +kernel
theorem dX5_have_10 : decode cX5_have 10 = .ok (.invokevirtual 29, 3) := by decide +kernel
theorem dX5_have_13 : decode cX5_have 13 = .ok (.iload_n 2, 1) := by decide +kernel
theorem dX5_have_14 : decode cX5_have 14 = .ok (.iload_n 3, 1) := by decide +kernel
theorem dX5_have_15 : decode cX5_have 15 = .ok (.invokestatic 33, 3) := by decide +kernel
theorem dX5_have_18 : decode cX5_have 18 = .ok (.if_icmp .ge 5, 3) := by decide +kernel
theorem dX5_have_21 : decode cX5_have 21 = .ok (.iconst 0, 1) := by decide +kernel
theorem dX5_have_22 : decode cX5_have 22 = .ok (.ireturn, 1) := by decide +kernel
theorem dX5_have_23 : decode cX5_have 23 = .ok (.iinc 3 1, 3) := by decide +kernel
theorem dX5_have_26 : decode cX5_have 26 = .ok (.goto (-24), 3) := by decide +kernel
theorem dX5_have_29 : decode cX5_have 29 = .ok (.iconst 1, 1) := by decide +kernel
theorem dX5_have_30 : decode cX5_have 30 = .ok (.ireturn, 1) := by decide +kernel
def vb_X5_have_2 (Q : Int32 → Prop) (γ : Mem) (rec : Nat → Int32 → Int32 → Int32 → Prop) (w1 : Int32) (w2 : Int32) (w3 : Int32) : Prop :=
  ((3 ≤ w3) → (Q 1 )) ∧ ((¬ 3 ≤ w3) → (vc_X5_amountOf (fun r2 => vc_X7_amountIn (fun r3 => ((r3 ≤ r2) → (∀ v5 : Int32, v5 = w3 + 1 → (rec 0 w1 w2 v5))) ∧ ((¬ r3 ≤ r2) → (Q 0 ))) w2 w3) γ w1 w3))
def vl_X5_have (Q : Int32 → Prop) (γ : Mem) : Nat → Nat → Int32 → Int32 → Int32 → Prop
  | 0, _, _, _, _ => False
  | n + 1, 0, w1, w2, w3 => vb_X5_have_2 Q γ (vl_X5_have Q γ n) w1 w2 w3
  | _ + 1, _, _, _, _ => False
def vc_X5_have (Q : Int32 → Prop) (γ : Mem) (x1 : Int32) (x2 : Int32) : Prop :=
  ∃ n : Nat, vl_X5_have Q γ n 0 x1 x2 0
set_option maxHeartbeats 8000000 in
set_option maxRecDepth 100000 in
theorem m_X5_have (l : Launch) (G : GG) (aG : Nat) (γ : Mem) (x1 : Int32) (x2 : Int32) (Q : Int32 → Prop) (h : vc_X5_have Q γ x1 x2) : CtI l yX5_have cX5_have 4 (some .boolean) { frames := 1, cells := 0, slots := 0, locals := 22 } [.ref (aG + 1), .int x1, .int x2] G (fun H => rg G LG aG γ H) (fun r (_ : Unit) => Q r) (fun _ _ => True) (fun _ => False) := by
  unfold CtI
  refine met_start (y := yX5_have) (maxL := 4) (av := [.ref (aG + 1), .int x1, .int x2]) (G := G) (P := fun H => rg G LG aG γ H) (by decide) rfl (Nat.le_of_ble_eq_true rfl) (fun p e s m below meth c ls C hr hP hK hl => ?_)
  obtain ⟨hx, hb, hml, hown, hts, hlocks⟩ := id C
  have hG : rg G LG aG γ s.heap := hP
  have hS : va_S (fun _ => False) s.heap s.heap [] := va_S.rf
  have hl : lv_has ls 4 [(0, .ref (aG + 1)), (1, .int x1), (2, .int x2)] := hl
  have K : ∀ n : Nat, (∀ (w1 : Int32) (w2 : Int32) (w3 : Int32) (H : Heap) (locs : List Loc) (ls : Array Slot), rg G LG aG γ H → va_S (fun _ => False) s.heap H locs → lv_has ls 4 [(0, .ref (aG + 1)), (1, .int w1), (2, .int w2), (3, .int w3)] → vl_X5_have Q γ n 0 w1 w2 w3 → W p l e { frames := 1, cells := 0, slots := 0, locals := 22 } s m [.ref (aG + 1), .int x1, .int x2].toArray below meth c H locs 0 0 (MQ below (va_Qi (fun r (_ : Unit) => Q r) (fun u t => (fun _ _ => True) u t.heap ∧ KK G t) (fun _ => False)) [.ref (aG + 1), .int x1, .int x2].toArray s 0 0 (fun _ => False)) (F0 m 2 ls [])) := by
    intro n
    induction n with
    | zero => exact fun _ _ _ _ _ _ _ _ _ h => h.elim
    | succ n ih =>
      · intro w1 w2 w3 H locs ls hG hS hl h
        replace h : vb_X5_have_2 Q γ (vl_X5_have Q γ n) w1 w2 w3 := h
        unfold vb_X5_have_2 at h
        refine lv_iload_n hx hb dX5_have_2 rfl (lv_at hl 3 rfl) ?_
        refine lv_iconst (v := 3) hx hb dX5_have_3 (by decide) ?_
        refine lv_icmp_ge (tgt := 29) hx hb dX5_have_4 (by decide) (fun c1 => ?_) (fun c1 => ?_)
        · replace h := h.1 c1
          refine lv_iconst (v := 1) hx hb dX5_have_29 (by decide) ?_
          exact g_zret (post := fun r (_ : Unit) => Q r) (P' := fun _ _ => True) (r := 1) (u := ()) C hr hK hS (by rfl) h trivial dX5_have_30
        · replace h := h.2 c1
          refine lv_aload_n hx hb dX5_have_7 rfl (lv_at hl 0 rfl) ?_
          refine lv_iload_n hx hb dX5_have_8 rfl (lv_at hl 1 rfl) ?_
          refine lv_iload_n hx hb dX5_have_9 rfl (lv_at hl 3 rfl) ?_
          refine g_vI C hK hl.1 (m_X5_amountOf l G aG γ w1 w3 _ h) mw_X5_amountOf mi_X5_amountOf ml_X5_29 rfl ⟨rfl, rfl, Nat.le_of_ble_eq_true rfl, Nat.le_of_ble_eq_true rfl⟩ ⟨Nat.zero_le _, Nat.zero_le _⟩ (g_recv (a := aG) (k := 1) hK hG rfl rfl) hG hS (fun _ h => h.elim) rfl (Nat.le_of_ble_eq_true rfl) dX5_have_10 (fun r2 u H locs h hu _ hq hS => ?_)
          have hG := hG.past hq (fun _ _ h => h)
          refine lv_iload_n hx hb dX5_have_13 rfl (lv_at hl 2 rfl) ?_
          refine lv_iload_n hx hb dX5_have_14 rfl (lv_at hl 3 rfl) ?_
          refine g_nI C hK hl.1 (m_X7_amountIn l G w2 w3 _ h) mw_X7_amountIn ms_X7_amountIn nl_X5_33 rfl ⟨rfl, rfl, Nat.le_of_ble_eq_true rfl, Nat.le_of_ble_eq_true rfl⟩ ⟨Nat.zero_le _, Nat.zero_le _⟩ trivial hS (fun _ h => h.elim) rfl (Nat.le_of_ble_eq_true rfl) dX5_have_15 (fun r3 u H locs h hu _ hq hS => ?_)
          have hG := hG.past hq (fun _ _ h => h)
          refine lv_icmp_ge (tgt := 23) hx hb dX5_have_18 (by decide) (fun c4 => ?_) (fun c4 => ?_)
          · replace h := h.1 c4
            obtain ⟨v5, ev5⟩ : ∃ y : Int32, y = w3 + 1 := ⟨_, rfl⟩
            specialize h v5 ev5
            refine lv_iinc (v := v5) (lv' := [(3, .int v5), (0, .ref (aG + 1)), (1, .int w1), (2, .int w2)]) hx hb dX5_have_23 hl (k := 3) rfl (by rw [ev5]; rfl) (by decide) rfl (fun ls hl => ?_)
            refine lv_goto (tgt := 2) hx hb dX5_have_26 (by decide) ?_
            exact (ih) w1 w2 v5 _ _ _ hG hS (lv_sub hl [1, 2, 3, 0] rfl) h
          · replace h := h.2 c4
            refine lv_iconst (v := 0) hx hb dX5_have_21 (by decide) ?_
            exact g_zret (post := fun r (_ : Unit) => Q r) (P' := fun _ _ => True) (r := 0) (u := ()) C hr hK hS (by rfl) h trivial dX5_have_22
  unfold vc_X5_have at h
  obtain ⟨n, h⟩ := h
  refine lv_iconst (v := 0) hx hb dX5_have_0 (by decide) ?_
  refine lv_istore_n (lv' := [(3, .int 0), (0, .ref (aG + 1)), (1, .int x1), (2, .int x2)]) hx hb dX5_have_1 rfl hl (by decide) rfl (fun ls hl => ?_)
  exact ((K n)) x1 x2 0 _ _ _ hG hS (lv_sub hl [1, 2, 3, 0] rfl) h
theorem dX5_allWhoHave_0 : decode cX5_allWhoHave 0 = .ok (.iconst 0, 1) := by decide +kernel
theorem dX5_allWhoHave_1 : decode cX5_allWhoHave 1 = .ok (.istore_n 2, 1) := by decide +kernel
theorem dX5_allWhoHave_2 : decode cX5_allWhoHave 2 = .ok (.iconst 0, 1) := by decide +kernel
theorem dX5_allWhoHave_3 : decode cX5_allWhoHave 3 = .ok (.istore_n 3, 1) := by decide +kernel
theorem dX5_allWhoHave_4 : decode cX5_allWhoHave 4 = .ok (.iload_n 3, 1) := by decide +kernel
theorem dX5_allWhoHave_5 : decode cX5_allWhoHave 5 = .ok (.aload_n 0, 1) := by decide +kernel
theorem dX5_allWhoHave_6 : decode cX5_allWhoHave 6 = .ok (.getfield 18, 3) := by decide +kernel
theorem dX5_allWhoHave_9 : decode cX5_allWhoHave 9 = .ok (.if_icmp .ge 29, 3) := by decide +kernel
theorem dX5_allWhoHave_12 : decode cX5_allWhoHave 12 = .ok (.iload_n 3, 1) := by decide +kernel
theorem dX5_allWhoHave_13 : decode cX5_allWhoHave 13 = .ok (.iconst 4, 1) := by decide +kernel
theorem dX5_allWhoHave_14 : decode cX5_allWhoHave 14 = .ok (.if_icmp .ge 24, 3) := by decide +kernel
theorem dX5_allWhoHave_17 : decode cX5_allWhoHave 17 = .ok (.aload_n 0, 1) := by decide +kernel
theorem dX5_allWhoHave_18 : decode cX5_allWhoHave 18 = .ok (.iload_n 3, 1) := by decide +kernel
theorem dX5_allWhoHave_19 : decode cX5_allWhoHave 19 = .ok (.iload_n 1, 1) := by decide +kernel
theorem dX5_allWhoHave_20 : decode cX5_allWhoHave 20 = .ok (.invokevirtual 36, 3) := by decide +kernel
theorem dX5_allWhoHave_23 : decode cX5_allWhoHave 23 = .ok (.ifCond .eq 9, 3) := by decide +kernel
theorem dX5_allWhoHave_26 : decode cX5_allWhoHave 26 = .ok (.iload_n 2, 1) := by decide +kernel
theorem dX5_allWhoHave_27 : decode cX5_allWhoHave 27 = .ok (.iconst 1, 1) := by decide +kernel
theorem dX5_allWhoHave_28 : decode cX5_allWhoHave 28 = .ok (.iload_n 3, 1) := by decide +kernel
theorem dX5_allWhoHave_29 : decode cX5_allWhoHave 29 = .ok (.ishl, 1) := by decide +kernel
theorem dX5_allWhoHave_30 : decode cX5_allWhoHave 30 = .ok (.ior, 1) := by decide +kernel
theorem dX5_allWhoHave_31 : decode cX5_allWhoHave 31 = .ok (.istore_n 2, 1) := by decide +kernel
theorem dX5_allWhoHave_32 : decode cX5_allWhoHave 32 = .ok (.iinc 3 1, 3) := by decide +kernel
theorem dX5_allWhoHave_35 : decode cX5_allWhoHave 35 = .ok (.goto (-31), 3) := by decide +kernel
theorem dX5_allWhoHave_38 : decode cX5_allWhoHave 38 = .ok (.iload_n 2, 1) := by decide +kernel
theorem dX5_allWhoHave_39 : decode cX5_allWhoHave 39 = .ok (.ireturn, 1) := by decide +kernel
def vb_X5_allWhoHave_4 (Q : Int32 → Prop) (γ : Mem) (rec : Nat → Int32 → Int32 → Int32 → Prop) (w1 : Int32) (w2 : Int32) (w3 : Int32) : Prop :=
  (((γ 1 0) ≤ w3) → (Q w2 )) ∧ ((¬ (γ 1 0) ≤ w3) → (((4 ≤ w3) → (Q w2 )) ∧ ((¬ 4 ≤ w3) → (vc_X5_have (fun r3 => ((r3 = 0) → (∀ v5 : Int32, v5 = w3 + 1 → (rec 0 w1 w2 v5))) ∧ ((¬ r3 = 0) → (∀ v6 : Int32, v6 = (w2 ||| (1 <<< (w3 &&& 31))) → (∀ v7 : Int32, v7 = w3 + 1 → (rec 0 w1 v6 v7))))) γ w3 w1))))
def vl_X5_allWhoHave (Q : Int32 → Prop) (γ : Mem) : Nat → Nat → Int32 → Int32 → Int32 → Prop
  | 0, _, _, _, _ => False
  | n + 1, 0, w1, w2, w3 => vb_X5_allWhoHave_4 Q γ (vl_X5_allWhoHave Q γ n) w1 w2 w3
  | _ + 1, _, _, _, _ => False
def vc_X5_allWhoHave (Q : Int32 → Prop) (γ : Mem) (x1 : Int32) : Prop :=
  ∃ n : Nat, vl_X5_allWhoHave Q γ n 0 x1 0 0
set_option maxHeartbeats 8000000 in
set_option maxRecDepth 100000 in
theorem m_X5_allWhoHave (l : Launch) (G : GG) (aG : Nat) (γ : Mem) (x1 : Int32) (Q : Int32 → Prop) (h : vc_X5_allWhoHave Q γ x1) : CtI l yX5_allWhoHave cX5_allWhoHave 4 (some .int) { frames := 2, cells := 0, slots := 0, locals := 45 } [.ref (aG + 1), .int x1] G (fun H => rg G LG aG γ H) (fun r (_ : Unit) => Q r) (fun _ _ => True) (fun _ => False) := by
  unfold CtI
  refine met_start (y := yX5_allWhoHave) (maxL := 4) (av := [.ref (aG + 1), .int x1]) (G := G) (P := fun H => rg G LG aG γ H) (by decide) rfl (Nat.le_of_ble_eq_true rfl) (fun p e s m below meth c ls C hr hP hK hl => ?_)
  obtain ⟨hx, hb, hml, hown, hts, hlocks⟩ := id C
  have hG : rg G LG aG γ s.heap := hP
  have hS : va_S (fun _ => False) s.heap s.heap [] := va_S.rf
  have hl : lv_has ls 4 [(0, .ref (aG + 1)), (1, .int x1)] := hl
  have K : ∀ n : Nat, (∀ (w1 : Int32) (w2 : Int32) (w3 : Int32) (H : Heap) (locs : List Loc) (ls : Array Slot), rg G LG aG γ H → va_S (fun _ => False) s.heap H locs → lv_has ls 4 [(0, .ref (aG + 1)), (1, .int w1), (2, .int w2), (3, .int w3)] → vl_X5_allWhoHave Q γ n 0 w1 w2 w3 → W p l e { frames := 2, cells := 0, slots := 0, locals := 45 } s m [.ref (aG + 1), .int x1].toArray below meth c H locs 0 0 (MQ below (va_Qi (fun r (_ : Unit) => Q r) (fun u t => (fun _ _ => True) u t.heap ∧ KK G t) (fun _ => False)) [.ref (aG + 1), .int x1].toArray s 0 0 (fun _ => False)) (F0 m 4 ls [])) := by
    intro n
    induction n with
    | zero => exact fun _ _ _ _ _ _ _ _ _ h => h.elim
    | succ n ih =>
      · intro w1 w2 w3 H locs ls hG hS hl h
        replace h : vb_X5_allWhoHave_4 Q γ (vl_X5_allWhoHave Q γ n) w1 w2 w3 := h
        unfold vb_X5_allWhoHave_4 at h
        refine lv_iload_n hx hb dX5_allWhoHave_4 rfl (lv_at hl 3 rfl) ?_
        refine lv_aload_n hx hb dX5_allWhoHave_5 rfl (lv_at hl 0 rfl) ?_
        refine g_getI (a := aG) (k := 1) C hK hG fl_X5_18 rfl rfl dX5_allWhoHave_6 ?_
        refine lv_icmp_ge (tgt := 38) hx hb dX5_allWhoHave_9 (by decide) (fun c1 => ?_) (fun c1 => ?_)
        · replace h := h.1 c1
          refine lv_iload_n hx hb dX5_allWhoHave_38 rfl (lv_at hl 2 rfl) ?_
          exact g_iret (post := fun r (_ : Unit) => Q r) (P' := fun _ _ => True) (r := w2) (u := ()) C hr hK hS h trivial dX5_allWhoHave_39
        · replace h := h.2 c1
          refine lv_iload_n hx hb dX5_allWhoHave_12 rfl (lv_at hl 3 rfl) ?_
          refine lv_iconst (v := 4) hx hb dX5_allWhoHave_13 (by decide) ?_
          refine lv_icmp_ge (tgt := 38) hx hb dX5_allWhoHave_14 (by decide) (fun c2 => ?_) (fun c2 => ?_)
          · replace h := h.1 c2
            refine lv_iload_n hx hb dX5_allWhoHave_38 rfl (lv_at hl 2 rfl) ?_
            exact g_iret (post := fun r (_ : Unit) => Q r) (P' := fun _ _ => True) (r := w2) (u := ()) C hr hK hS h trivial dX5_allWhoHave_39
          · replace h := h.2 c2
            refine lv_aload_n hx hb dX5_allWhoHave_17 rfl (lv_at hl 0 rfl) ?_
            refine lv_iload_n hx hb dX5_allWhoHave_18 rfl (lv_at hl 3 rfl) ?_
            refine lv_iload_n hx hb dX5_allWhoHave_19 rfl (lv_at hl 1 rfl) ?_
            refine g_vI C hK hl.1 (m_X5_have l G aG γ w3 w1 _ h) mw_X5_have mi_X5_have ml_X5_36 rfl ⟨rfl, rfl, Nat.le_of_ble_eq_true rfl, Nat.le_of_ble_eq_true rfl⟩ ⟨Nat.zero_le _, Nat.zero_le _⟩ (g_recv (a := aG) (k := 1) hK hG rfl rfl) hG hS (fun _ h => h.elim) rfl (Nat.le_of_ble_eq_true rfl) dX5_allWhoHave_20 (fun r3 u H locs h hu _ hq hS => ?_)
            have hG := hG.past hq (fun _ _ h => h)
            refine lv_if_eq (tgt := 32) hx hb dX5_allWhoHave_23 (by decide) (fun c4 => ?_) (fun c4 => ?_)
            · replace h := h.1 c4
              obtain ⟨v5, ev5⟩ : ∃ y : Int32, y = w3 + 1 := ⟨_, rfl⟩
              specialize h v5 ev5
              refine lv_iinc (v := v5) (lv' := [(3, .int v5), (0, .ref (aG + 1)), (1, .int w1), (2, .int w2)]) hx hb dX5_allWhoHave_32 hl (k := 3) rfl (by rw [ev5]; rfl) (by decide) rfl (fun ls hl => ?_)
              refine lv_goto (tgt := 4) hx hb dX5_allWhoHave_35 (by decide) ?_
              exact (ih) w1 w2 v5 _ _ _ hG hS (lv_sub hl [1, 2, 3, 0] rfl) h
            · replace h := h.2 c4
              refine lv_iload_n hx hb dX5_allWhoHave_26 rfl (lv_at hl 2 rfl) ?_
              refine lv_iconst (v := 1) hx hb dX5_allWhoHave_27 (by decide) ?_
              refine lv_iload_n hx hb dX5_allWhoHave_28 rfl (lv_at hl 3 rfl) ?_
              refine lv_ishl hx hb dX5_allWhoHave_29 ?_
              refine lv_ior hx hb dX5_allWhoHave_30 ?_
              refine lv_topi (fun v6 ev6 => ?_)
              specialize h v6 ev6
              refine lv_istore_n (lv' := [(2, .int v6), (0, .ref (aG + 1)), (1, .int w1), (3, .int w3)]) hx hb dX5_allWhoHave_31 rfl hl (by decide) rfl (fun ls hl => ?_)
              obtain ⟨v7, ev7⟩ : ∃ y : Int32, y = w3 + 1 := ⟨_, rfl⟩
              specialize h v7 ev7
              refine lv_iinc (v := v7) (lv' := [(3, .int v7), (2, .int v6), (0, .ref (aG + 1)), (1, .int w1)]) hx hb dX5_allWhoHave_32 hl (k := 3) rfl (by rw [ev7]; rfl) (by decide) rfl (fun ls hl => ?_)
              refine lv_goto (tgt := 4) hx hb dX5_allWhoHave_35 (by decide) ?_
              exact (ih) w1 v6 v7 _ _ _ hG hS (lv_sub hl [2, 3, 1, 0] rfl) h
  unfold vc_X5_allWhoHave at h
  obtain ⟨n, h⟩ := h
  refine lv_iconst (v := 0) hx hb dX5_allWhoHave_0 (by decide) ?_
  refine lv_istore_n (lv' := [(2, .int 0), (0, .ref (aG + 1)), (1, .int x1)]) hx hb dX5_allWhoHave_1 rfl hl (by decide) rfl (fun ls hl => ?_)
  refine lv_iconst (v := 0) hx hb dX5_allWhoHave_2 (by decide) ?_
  refine lv_istore_n (lv' := [(3, .int 0), (2, .int 0), (0, .ref (aG + 1)), (1, .int x1)]) hx hb dX5_allWhoHave_3 rfl hl (by decide) rfl (fun ls hl => ?_)
  exact ((K n)) x1 0 0 _ _ _ hG hS (lv_sub hl [2, 3, 1, 0] rfl) h
theorem dX5_pay_0 : decode cX5_pay 0 = .ok (.iconst 0, 1) := by decide +kernel
theorem dX5_pay_1 : decode cX5_pay 1 = .ok (.istore_n 3, 1) := by decide +kernel
theorem dX5_pay_2 : decode cX5_pay 2 = .ok (.iload_n 3, 1) := by decide +kernel
theorem dX5_pay_3 : decode cX5_pay 3 = .ok (.iconst 3, 1) := by decide +kernel
theorem dX5_pay_4 : decode cX5_pay 4 = .ok (.if_icmp .ge 27, 3) := by decide +kernel
theorem dX5_pay_7 : decode cX5_pay 7 = .ok (.aload_n 0, 1) := by decide +kernel
theorem dX5_pay_8 : decode cX5_pay 8 = .ok (.getfield 9, 3) := by decide +kernel
theorem dX5_pay_11 : decode cX5_pay 11 = .ok (.iconst 3, 1) := by decide +kernel
theorem dX5_pay_12 : decode cX5_pay 12 = .ok (.iload_n 1, 1) := by decide +kernel
theorem dX5_pay_13 : decode cX5_pay 13 = .ok (.imul, 1) := by decide +kernel
theorem dX5_pay_14 : decode cX5_pay 14 = .ok (.iload_n 3, 1) := by decide +kernel
theorem dX5_pay_15 : decode cX5_pay 15 = .ok (.iadd, 1) := by decide +kernel
theorem dX5_pay_16 : decode cX5_pay 16 = .ok (.dup2, 1) := by decide +kernel
theorem dX5_pay_17 : decode cX5_pay 17 = .ok (.iaload, 1) := by decide +kernel
theorem dX5_pay_18 : decode cX5_pay 18 = .ok (.iload_n 2, 1) := by decide +kernel
theorem dX5_pay_19 : decode cX5_pay 19 = .ok (.iload_n 3, 1) := by decide +kernel
theorem dX5_pay_20 : decode cX5_pay 20 = .ok (.invokestatic 33, 3) := by decide +kernel
theorem dX5_pay_23 : decode cX5_pay 23 = .ok (.isub, 1) := by decide +kernel
theorem dX5_pay_24 : decode cX5_pay 24 = .ok (.iastore, 1) := by decide +kernel
theorem dX5_pay_25 : decode cX5_pay 25 = .ok (.iinc 3 1, 3) := by decide +kernel
theorem dX5_pay_28 : decode cX5_pay 28 = .ok (.goto (-26), 3) := by decide +kernel
theorem dX5_pay_31 : decode cX5_pay 31 = .ok (.return_, 1) := by decide +kernel
def vb_X5_pay_2 (Q : Mem → Prop) (rec : Nat → Mem → Int32 → Int32 → Int32 → Prop) (γ : Mem) (w1 : Int32) (w2 : Int32) (w3 : Int32) : Prop :=
  ((3 ≤ w3) → (Q γ)) ∧ ((¬ 3 ≤ w3) → (vp_in ((3 * w1) + w3) 12 ∧ (vc_X7_amountIn (fun r3 => (∀ γ4 : Mem, γ4 = up γ 2 ((3 * w1) + w3).toNatClampNeg ((γ 2 ((3 * w1) + w3).toNatClampNeg) - r3) → (∀ v5 : Int32, v5 = w3 + 1 → (rec 0 γ4 w1 w2 v5)))) w2 w3)))
def vl_X5_pay (Q : Mem → Prop) : Nat → Nat → Mem → Int32 → Int32 → Int32 → Prop
  | 0, _, _, _, _, _ => False
  | n + 1, 0, γ, w1, w2, w3 => vb_X5_pay_2 Q (vl_X5_pay Q n) γ w1 w2 w3
  | _ + 1, _, _, _, _, _ => False
def vc_X5_pay (Q : Mem → Prop) (γ : Mem) (x1 : Int32) (x2 : Int32) : Prop :=
  ∃ n : Nat, vl_X5_pay Q n 0 γ x1 x2 0
set_option maxHeartbeats 8000000 in
set_option maxRecDepth 100000 in
theorem m_X5_pay (l : Launch) (G : GG) (aG : Nat) (γ : Mem) (x1 : Int32) (x2 : Int32) (Q : Mem → Prop) (h : vc_X5_pay Q γ x1 x2) : CtV l yX5_pay cX5_pay 4 { frames := 1, cells := 0, slots := 0, locals := 21 } [.ref (aG + 1), .int x1, .int x2] G (fun H => rg G LG aG γ H) (Q) (fun u H => rg G LG aG u H) (RA aG 22) := by
  unfold CtV
  refine met_start (y := yX5_pay) (maxL := 4) (av := [.ref (aG + 1), .int x1, .int x2]) (G := G) (P := fun H => rg G LG aG γ H) (by decide) rfl (Nat.le_of_ble_eq_true rfl) (fun p e s m below meth c ls C hr hP hK hl => ?_)
  obtain ⟨hx, hb, hml, hown, hts, hlocks⟩ := id C
  have hG : rg G LG aG γ s.heap := hP
  have hS : va_S (RA aG 22) s.heap s.heap [] := va_S.rf
  have hl : lv_has ls 4 [(0, .ref (aG + 1)), (1, .int x1), (2, .int x2)] := hl
  have K : ∀ n : Nat, (∀ (γ : Mem) (w1 : Int32) (w2 : Int32) (w3 : Int32) (H : Heap) (locs : List Loc) (ls : Array Slot), rg G LG aG γ H → va_S (RA aG 22) s.heap H locs → lv_has ls 4 [(0, .ref (aG + 1)), (1, .int w1), (2, .int w2), (3, .int w3)] → vl_X5_pay Q n 0 γ w1 w2 w3 → W p l e { frames := 1, cells := 0, slots := 0, locals := 21 } s m [.ref (aG + 1), .int x1, .int x2].toArray below meth c H locs 0 0 (MQ below (va_Qv (Q) (fun u t => (fun u H => rg G LG aG u H) u t.heap ∧ KK G t) (RA aG 22)) [.ref (aG + 1), .int x1, .int x2].toArray s 0 0 (RA aG 22)) (F0 m 2 ls [])) := by
    intro n
    induction n with
    | zero => exact fun _ _ _ _ _ _ _ _ _ _ h => h.elim
    | succ n ih =>
      · intro γ w1 w2 w3 H locs ls hG hS hl h
        replace h : vb_X5_pay_2 Q (vl_X5_pay Q n) γ w1 w2 w3 := h
        unfold vb_X5_pay_2 at h
        refine lv_iload_n hx hb dX5_pay_2 rfl (lv_at hl 3 rfl) ?_
        refine lv_iconst (v := 3) hx hb dX5_pay_3 (by decide) ?_
        refine lv_icmp_ge (tgt := 31) hx hb dX5_pay_4 (by decide) (fun c1 => ?_) (fun c1 => ?_)
        · replace h := h.1 c1
          exact g_vret (post := Q) (P' := fun u H => rg G LG aG u H) (u := γ) C hr hK hS h hG dX5_pay_31
        · replace h := h.2 c1
          refine lv_aload_n hx hb dX5_pay_7 rfl (lv_at hl 0 rfl) ?_
          refine g_getR (a := aG) (k := 1) (o := 2) C hK hG fl_X5_9 rfl rfl dX5_pay_8 ?_
          refine lv_iconst (v := 3) hx hb dX5_pay_11 (by decide) ?_
          refine lv_iload_n hx hb dX5_pay_12 rfl (lv_at hl 1 rfl) ?_
          refine lv_imul hx hb dX5_pay_13 ?_
          refine lv_iload_n hx hb dX5_pay_14 rfl (lv_at hl 3 rfl) ?_
          refine lv_iadd hx hb dX5_pay_15 ?_
          refine lv_dup2_11 hx hb dX5_pay_16 rfl rfl ?_
          obtain ⟨b2, h⟩ := h
          refine g_ald (a := aG) (k := 2) (n := 12) C hK hG rfl b2 dX5_pay_17 ?_
          refine lv_iload_n hx hb dX5_pay_18 rfl (lv_at hl 2 rfl) ?_
          refine lv_iload_n hx hb dX5_pay_19 rfl (lv_at hl 3 rfl) ?_
          refine g_nI C hK hl.1 (m_X7_amountIn l G w2 w3 _ h) mw_X7_amountIn ms_X7_amountIn nl_X5_33 rfl ⟨rfl, rfl, Nat.le_of_ble_eq_true rfl, Nat.le_of_ble_eq_true rfl⟩ ⟨Nat.zero_le _, Nat.zero_le _⟩ trivial hS (fun _ h => h.elim) rfl (Nat.le_of_ble_eq_true rfl) dX5_pay_20 (fun r3 u H locs h hu _ hq hS => ?_)
          have hG := hG.past hq (fun _ _ h => h)
          refine lv_isub hx hb dX5_pay_23 ?_
          refine g_ast (a := aG) (k := 2) (n := 12) C hK hG hS rfl b2 (RA_in (by decide)) dX5_pay_24 (fun γ4 H locs eγ4 hG hS hq => ?_)
          specialize h γ4 eγ4
          obtain ⟨v5, ev5⟩ : ∃ y : Int32, y = w3 + 1 := ⟨_, rfl⟩
          specialize h v5 ev5
          refine lv_iinc (v := v5) (lv' := [(3, .int v5), (0, .ref (aG + 1)), (1, .int w1), (2, .int w2)]) hx hb dX5_pay_25 hl (k := 3) rfl (by rw [ev5]; rfl) (by decide) rfl (fun ls hl => ?_)
          refine lv_goto (tgt := 2) hx hb dX5_pay_28 (by decide) ?_
          exact (ih) γ4 w1 w2 v5 _ _ _ hG hS (lv_sub hl [1, 2, 3, 0] rfl) h
  unfold vc_X5_pay at h
  obtain ⟨n, h⟩ := h
  refine lv_iconst (v := 0) hx hb dX5_pay_0 (by decide) ?_
  refine lv_istore_n (lv' := [(3, .int 0), (0, .ref (aG + 1)), (1, .int x1), (2, .int x2)]) hx hb dX5_pay_1 rfl hl (by decide) rfl (fun ls hl => ?_)
  exact ((K n)) γ x1 x2 0 _ _ _ hG hS (lv_sub hl [1, 2, 3, 0] rfl) h
theorem dX5_gain_0 : decode cX5_gain 0 = .ok (.iconst 0, 1) := by decide +kernel
theorem dX5_gain_1 : decode cX5_gain 1 = .ok (.istore_n 3, 1) := by decide +kernel
theorem dX5_gain_2 : decode cX5_gain 2 = .ok (.iload_n 3, 1) := by decide +kernel
theorem dX5_gain_3 : decode cX5_gain 3 = .ok (.iconst 3, 1) := by decide +kernel
theorem dX5_gain_4 : decode cX5_gain 4 = .ok (.if_icmp .ge 58, 3) := by decide +kernel
theorem dX5_gain_7 : decode cX5_gain 7 = .ok (.aload_n 0, 1) := by decide +kernel
theorem dX5_gain_8 : decode cX5_gain 8 = .ok (.iload_n 1, 1) := by decide +kernel
theorem dX5_gain_9 : decode cX5_gain 9 = .ok (.iload_n 3, 1) := by decide +kernel
theorem dX5_gain_10 : decode cX5_gain 10 = .ok (.invokevirtual 29, 3) := by decide +kernel
theorem dX5_gain_13 : decode cX5_gain 13 = .ok (.iload_n 2, 1) := by decide +kernel
theorem dX5_gain_14 : decode cX5_gain 14 = .ok (.iload_n 3, 1) := by decide +kernel
theorem dX5_gain_15 : decode cX5_gain 15 = .ok (.invokestatic 33, 3) := by decide +kernel
theorem dX5_gain_18 : decode cX5_gain 18 = .ok (.iadd, 1) := by decide +kernel
theorem dX5_gain_19 : decode cX5_gain 19 = .ok (.istore 4, 2) := by decide +kernel
theorem dX5_gain_21 : decode cX5_gain 21 = .ok (.iload 4, 2) := by decide +kernel
theorem dX5_gain_23 : decode cX5_gain 23 = .ok (.bipush 99, 2) := by decide +kernel
theorem dX5_gain_25 : decode cX5_gain 25 = .ok (.invokestatic 40, 3) := by decide +kernel
theorem dX5_gain_28 : decode cX5_gain 28 = .ok (.istore 5, 2) := by decide +kernel
theorem dX5_gain_30 : decode cX5_gain 30 = .ok (.aload_n 0, 1) := by decide +kernel
theorem dX5_gain_31 : decode cX5_gain 31 = .ok (.getfield 9, 3) := by decide +kernel
theorem dX5_gain_34 : decode cX5_gain 34 = .ok (.iconst 3, 1) := by decide +kernel
theorem dX5_gain_35 : decode cX5_gain 35 = .ok (.iload_n 1, 1) := by decide +kernel
theorem dX5_gain_36 : decode cX5_gain 36 = .ok (.imul, 1) := by decide +kernel
theorem dX5_gain_37 : decode cX5_gain 37 = .ok (.iload_n 3, 1) := by decide +kernel
theorem dX5_gain_38 : decode cX5_gain 38 = .ok (.iadd, 1) := by decide +kernel
theorem dX5_gain_39 : decode cX5_gain 39 = .ok (.iload 5, 2) := by decide +kernel
theorem dX5_gain_41 : decode cX5_gain 41 = .ok (.iastore, 1) := by decide +kernel
theorem dX5_gain_42 : decode cX5_gain 42 = .ok (.aload_n 0, 1) := by decide +kernel
theorem dX5_gain_43 : decode cX5_gain 43 = .ok (.dup, 1) := by decide +kernel
theorem dX5_gain_44 : decode cX5_gain 44 = .ok (.getfield 22, 3) := by decide +kernel
theorem dX5_gain_47 : decode cX5_gain 47 = .ok (.iload 4, 2) := by decide +kernel
theorem dX5_gain_49 : decode cX5_gain 49 = .ok (.iload 5, 2) := by decide +kernel
theorem dX5_gain_51 : decode cX5_gain 51 = .ok (.isub, 1) := by decide +kernel
theorem dX5_gain_52 : decode cX5_gain 52 = .ok (.iadd, 1) := by decide +kernel
theorem dX5_gain_53 : decode cX5_gain 53 = .ok (.putfield 22, 3) := by decide +kernel
theorem dX5_gain_56 : decode cX5_gain 56 = .ok (.iinc 3 1, 3) := by decide +kernel
theorem dX5_gain_59 : decode cX5_gain 59 = .ok (.goto (-57), 3) := by decide +kernel
theorem dX5_gain_62 : decode cX5_gain 62 = .ok (.return_, 1) := by decide +kernel
def vb_X5_gain_2 (Q : Mem → Prop) (rec : Nat → Mem → Int32 → Int32 → Int32 → Prop) (γ : Mem) (w1 : Int32) (w2 : Int32) (w3 : Int32) : Prop :=
  ((3 ≤ w3) → (Q γ)) ∧ ((¬ 3 ≤ w3) → (vc_X5_amountOf (fun r2 => vc_X7_amountIn (fun r3 => ∀ v4 : Int32, v4 = (r2 + r3) → (∀ v5 : Int32, v5 = (if 99 < v4 then 99 else v4) → (vp_in ((3 * w1) + w3) 12 ∧ (∀ γ7 : Mem, γ7 = up γ 2 ((3 * w1) + w3).toNatClampNeg v5 → (∀ γ8 : Mem, γ8 = up γ7 1 1 ((γ7 1 1) + (v4 - v5)) → (∀ v9 : Int32, v9 = w3 + 1 → (rec 0 γ8 w1 w2 v9))))))) w2 w3) γ w1 w3))
def vl_X5_gain (Q : Mem → Prop) : Nat → Nat → Mem → Int32 → Int32 → Int32 → Prop
  | 0, _, _, _, _, _ => False
  | n + 1, 0, γ, w1, w2, w3 => vb_X5_gain_2 Q (vl_X5_gain Q n) γ w1 w2 w3
  | _ + 1, _, _, _, _, _ => False
def vc_X5_gain (Q : Mem → Prop) (γ : Mem) (x1 : Int32) (x2 : Int32) : Prop :=
  ∃ n : Nat, vl_X5_gain Q n 0 γ x1 x2 0
set_option maxHeartbeats 8000000 in
set_option maxRecDepth 100000 in
theorem m_X5_gain (l : Launch) (G : GG) (aG : Nat) (γ : Mem) (x1 : Int32) (x2 : Int32) (Q : Mem → Prop) (h : vc_X5_gain Q γ x1 x2) : CtV l yX5_gain cX5_gain 6 { frames := 1, cells := 0, slots := 0, locals := 22 } [.ref (aG + 1), .int x1, .int x2] G (fun H => rg G LG aG γ H) (Q) (fun u H => rg G LG aG u H) (RA aG 22) := by
  unfold CtV
  refine met_start (y := yX5_gain) (maxL := 6) (av := [.ref (aG + 1), .int x1, .int x2]) (G := G) (P := fun H => rg G LG aG γ H) (by decide) rfl (Nat.le_of_ble_eq_true rfl) (fun p e s m below meth c ls C hr hP hK hl => ?_)
  obtain ⟨hx, hb, hml, hown, hts, hlocks⟩ := id C
  have hG : rg G LG aG γ s.heap := hP
  have hS : va_S (RA aG 22) s.heap s.heap [] := va_S.rf
  have hl : lv_has ls 6 [(0, .ref (aG + 1)), (1, .int x1), (2, .int x2)] := hl
  have K : ∀ n : Nat, (∀ (γ : Mem) (w1 : Int32) (w2 : Int32) (w3 : Int32) (H : Heap) (locs : List Loc) (ls : Array Slot), rg G LG aG γ H → va_S (RA aG 22) s.heap H locs → lv_has ls 6 [(0, .ref (aG + 1)), (1, .int w1), (2, .int w2), (3, .int w3)] → vl_X5_gain Q n 0 γ w1 w2 w3 → W p l e { frames := 1, cells := 0, slots := 0, locals := 22 } s m [.ref (aG + 1), .int x1, .int x2].toArray below meth c H locs 0 0 (MQ below (va_Qv (Q) (fun u t => (fun u H => rg G LG aG u H) u t.heap ∧ KK G t) (RA aG 22)) [.ref (aG + 1), .int x1, .int x2].toArray s 0 0 (RA aG 22)) (F0 m 2 ls [])) := by
    intro n
    induction n with
    | zero => exact fun _ _ _ _ _ _ _ _ _ _ h => h.elim
    | succ n ih =>
      · intro γ w1 w2 w3 H locs ls hG hS hl h
        replace h : vb_X5_gain_2 Q (vl_X5_gain Q n) γ w1 w2 w3 := h
        unfold vb_X5_gain_2 at h
        refine lv_iload_n hx hb dX5_gain_2 rfl (lv_at hl 3 rfl) ?_
        refine lv_iconst (v := 3) hx hb dX5_gain_3 (by decide) ?_
        refine lv_icmp_ge (tgt := 62) hx hb dX5_gain_4 (by decide) (fun c1 => ?_) (fun c1 => ?_)
        · replace h := h.1 c1
          exact g_vret (post := Q) (P' := fun u H => rg G LG aG u H) (u := γ) C hr hK hS h hG dX5_gain_62
        · replace h := h.2 c1
          refine lv_aload_n hx hb dX5_gain_7 rfl (lv_at hl 0 rfl) ?_
          refine lv_iload_n hx hb dX5_gain_8 rfl (lv_at hl 1 rfl) ?_
          refine lv_iload_n hx hb dX5_gain_9 rfl (lv_at hl 3 rfl) ?_
          refine g_vI C hK hl.1 (m_X5_amountOf l G aG γ w1 w3 _ h) mw_X5_amountOf mi_X5_amountOf ml_X5_29 rfl ⟨rfl, rfl, Nat.le_of_ble_eq_true rfl, Nat.le_of_ble_eq_true rfl⟩ ⟨Nat.zero_le _, Nat.zero_le _⟩ (g_recv (a := aG) (k := 1) hK hG rfl rfl) hG hS (fun _ h => h.elim) rfl (Nat.le_of_ble_eq_true rfl) dX5_gain_10 (fun r2 u H locs h hu _ hq hS => ?_)
          have hG := hG.past hq (fun _ _ h => h)
          refine lv_iload_n hx hb dX5_gain_13 rfl (lv_at hl 2 rfl) ?_
          refine lv_iload_n hx hb dX5_gain_14 rfl (lv_at hl 3 rfl) ?_
          refine g_nI C hK hl.1 (m_X7_amountIn l G w2 w3 _ h) mw_X7_amountIn ms_X7_amountIn nl_X5_33 rfl ⟨rfl, rfl, Nat.le_of_ble_eq_true rfl, Nat.le_of_ble_eq_true rfl⟩ ⟨Nat.zero_le _, Nat.zero_le _⟩ trivial hS (fun _ h => h.elim) rfl (Nat.le_of_ble_eq_true rfl) dX5_gain_15 (fun r3 u H locs h hu _ hq hS => ?_)
          have hG := hG.past hq (fun _ _ h => h)
          refine lv_iadd hx hb dX5_gain_18 ?_
          refine lv_topi (fun v4 ev4 => ?_)
          specialize h v4 ev4
          refine lv_istore (lv' := [(4, .int v4), (0, .ref (aG + 1)), (1, .int w1), (2, .int w2), (3, .int w3)]) hx hb dX5_gain_19 hl (by decide) rfl (fun ls hl => ?_)
          refine lv_iload hx hb dX5_gain_21 (lv_at hl 0 rfl) ?_
          refine lv_bipush (v := 99) hx hb dX5_gain_23 (by decide) ?_
          refine va_mmin hx hb (hml.trans hl.1.symm) hown (hts _ ml_X5_40) (hts _ math_min_s) (hts _ math_i) (hts _ math_min_c) (Nat.le_of_ble_eq_true rfl) (Nat.le_of_ble_eq_true rfl) (Nat.zero_le _) (Nat.zero_le _) dX5_gain_25 ?_
          refine lv_topi (fun v5 ev5 => ?_)
          specialize h v5 ev5
          refine lv_istore (lv' := [(5, .int v5), (4, .int v4), (0, .ref (aG + 1)), (1, .int w1), (2, .int w2), (3, .int w3)]) hx hb dX5_gain_28 hl (by decide) rfl (fun ls hl => ?_)
          refine lv_aload_n hx hb dX5_gain_30 rfl (lv_at hl 2 rfl) ?_
          refine g_getR (a := aG) (k := 1) (o := 2) C hK hG fl_X5_9 rfl rfl dX5_gain_31 ?_
          refine lv_iconst (v := 3) hx hb dX5_gain_34 (by decide) ?_
          refine lv_iload_n hx hb dX5_gain_35 rfl (lv_at hl 3 rfl) ?_
          refine lv_imul hx hb dX5_gain_36 ?_
          refine lv_iload_n hx hb dX5_gain_37 rfl (lv_at hl 5 rfl) ?_
          refine lv_iadd hx hb dX5_gain_38 ?_
          refine lv_iload hx hb dX5_gain_39 (lv_at hl 0 rfl) ?_
          obtain ⟨b6, h⟩ := h
          refine g_ast (a := aG) (k := 2) (n := 12) C hK hG hS rfl b6 (RA_in (by decide)) dX5_gain_41 (fun γ7 H locs eγ7 hG hS hq => ?_)
          specialize h γ7 eγ7
          refine lv_aload_n hx hb dX5_gain_42 rfl (lv_at hl 2 rfl) ?_
          refine lv_dup hx hb dX5_gain_43 rfl ?_
          refine g_getI (a := aG) (k := 1) C hK hG fl_X5_22 rfl rfl dX5_gain_44 ?_
          refine lv_iload hx hb dX5_gain_47 (lv_at hl 1 rfl) ?_
          refine lv_iload hx hb dX5_gain_49 (lv_at hl 0 rfl) ?_
          refine lv_isub hx hb dX5_gain_51 ?_
          refine lv_iadd hx hb dX5_gain_52 ?_
          refine g_put (a := aG) (k := 1) C hK hG hS fl_X5_22 fp_X5_1 rfl rfl (by rfl) (by rfl) (RA_in (by decide)) dX5_gain_53 (fun γ8 H locs eγ8 hG hS hq => ?_)
          specialize h γ8 eγ8
          obtain ⟨v9, ev9⟩ : ∃ y : Int32, y = w3 + 1 := ⟨_, rfl⟩
          specialize h v9 ev9
          refine lv_iinc (v := v9) (lv' := [(3, .int v9), (5, .int v5), (4, .int v4), (0, .ref (aG + 1)), (1, .int w1), (2, .int w2)]) hx hb dX5_gain_56 hl (k := 5) rfl (by rw [ev9]; rfl) (by decide) rfl (fun ls hl => ?_)
          refine lv_goto (tgt := 2) hx hb dX5_gain_59 (by decide) ?_
          exact (ih) γ8 w1 w2 v9 _ _ _ hG hS (lv_sub hl [3, 4, 5, 0] rfl) h
  unfold vc_X5_gain at h
  obtain ⟨n, h⟩ := h
  refine lv_iconst (v := 0) hx hb dX5_gain_0 (by decide) ?_
  refine lv_istore_n (lv' := [(3, .int 0), (0, .ref (aG + 1)), (1, .int x1), (2, .int x2)]) hx hb dX5_gain_1 rfl hl (by decide) rfl (fun ls hl => ?_)
  exact ((K n)) γ x1 x2 0 _ _ _ hG hS (lv_sub hl [1, 2, 3, 0] rfl) h
theorem dX5_allGoodsOf_0 : decode cX5_allGoodsOf 0 = .ok (.aload_n 0, 1) := by decide +kernel
theorem dX5_allGoodsOf_1 : decode cX5_allGoodsOf 1 = .ok (.iload_n 1, 1) := by decide +kernel
theorem dX5_allGoodsOf_2 : decode cX5_allGoodsOf 2 = .ok (.iconst 0, 1) := by decide +kernel
theorem dX5_allGoodsOf_3 : decode cX5_allGoodsOf 3 = .ok (.invokevirtual 29, 3) := by decide +kernel
theorem dX5_allGoodsOf_6 : decode cX5_allGoodsOf 6 = .ok (.aload_n 0, 1) := by decide +kernel
theorem dX5_allGoodsOf_7 : decode cX5_allGoodsOf 7 = .ok (.iload_n 1, 1) := by decide +kernel
theorem dX5_allGoodsOf_8 : decode cX5_allGoodsOf 8 = .ok (.iconst 1, 1) := by decide +kernel
theorem dX5_allGoodsOf_9 : decode cX5_allGoodsOf 9 = .ok (.invokevirtual 29, 3) := by decide +kernel
theorem dX5_allGoodsOf_12 : decode cX5_allGoodsOf 12 = .ok (.iadd, 1) := by decide +kernel
theorem dX5_allGoodsOf_13 : decode cX5_allGoodsOf 13 = .ok (.aload_n 0, 1) := by decide +kernel
theorem dX5_allGoodsOf_14 : decode cX5_allGoodsOf 14 = .ok (.iload_n 1, 1) := by decide +kernel
theorem dX5_allGoodsOf_15 : decode cX5_allGoodsOf 15 = .ok (.iconst 2, 1) := by decide +kernel
theorem dX5_allGoodsOf_16 : decode cX5_allGoodsOf 16 = .ok (.invokevirtual 29, 3) := by decide +kernel
theorem dX5_allGoodsOf_19 : decode cX5_allGoodsOf 19 = .ok (.iadd, 1) := by decide +kernel
theorem dX5_allGoodsOf_20 : decode cX5_allGoodsOf 20 = .ok (.ireturn, 1) := by decide +kernel
def vc_X5_allGoodsOf (Q : Int32 → Prop) (γ : Mem) (x1 : Int32) : Prop :=
  vc_X5_amountOf (fun r1 => vc_X5_amountOf (fun r2 => vc_X5_amountOf (fun r3 => Q ((r1 + r2) + r3) ) γ x1 2) γ x1 1) γ x1 0
set_option maxHeartbeats 8000000 in
set_option maxRecDepth 100000 in
theorem m_X5_allGoodsOf (l : Launch) (G : GG) (aG : Nat) (γ : Mem) (x1 : Int32) (Q : Int32 → Prop) (h : vc_X5_allGoodsOf Q γ x1) : CtI l yX5_allGoodsOf cX5_allGoodsOf 2 (some .int) { frames := 1, cells := 0, slots := 0, locals := 22 } [.ref (aG + 1), .int x1] G (fun H => rg G LG aG γ H) (fun r (_ : Unit) => Q r) (fun _ _ => True) (fun _ => False) := by
  unfold CtI
  refine met_start (y := yX5_allGoodsOf) (maxL := 2) (av := [.ref (aG + 1), .int x1]) (G := G) (P := fun H => rg G LG aG γ H) (by decide) rfl (Nat.le_of_ble_eq_true rfl) (fun p e s m below meth c ls C hr hP hK hl => ?_)
  obtain ⟨hx, hb, hml, hown, hts, hlocks⟩ := id C
  have hG : rg G LG aG γ s.heap := hP
  have hS : va_S (fun _ => False) s.heap s.heap [] := va_S.rf
  have hl : lv_has ls 2 [(0, .ref (aG + 1)), (1, .int x1)] := hl
  unfold vc_X5_allGoodsOf at h
  refine lv_aload_n hx hb dX5_allGoodsOf_0 rfl (lv_at hl 0 rfl) ?_
  refine lv_iload_n hx hb dX5_allGoodsOf_1 rfl (lv_at hl 1 rfl) ?_
  refine lv_iconst (v := 0) hx hb dX5_allGoodsOf_2 (by decide) ?_
  refine g_vI C hK hl.1 (m_X5_amountOf l G aG γ x1 0 _ h) mw_X5_amountOf mi_X5_amountOf ml_X5_29 rfl ⟨rfl, rfl, Nat.le_of_ble_eq_true rfl, Nat.le_of_ble_eq_true rfl⟩ ⟨Nat.zero_le _, Nat.zero_le _⟩ (g_recv (a := aG) (k := 1) hK hG rfl rfl) hG hS (fun _ h => h.elim) rfl (Nat.le_of_ble_eq_true rfl) dX5_allGoodsOf_3 (fun r1 u H locs h hu _ hq hS => ?_)
  have hG := hG.past hq (fun _ _ h => h)
  refine lv_aload_n hx hb dX5_allGoodsOf_6 rfl (lv_at hl 0 rfl) ?_
  refine lv_iload_n hx hb dX5_allGoodsOf_7 rfl (lv_at hl 1 rfl) ?_
  refine lv_iconst (v := 1) hx hb dX5_allGoodsOf_8 (by decide) ?_
  refine g_vI C hK hl.1 (m_X5_amountOf l G aG γ x1 1 _ h) mw_X5_amountOf mi_X5_amountOf ml_X5_29 rfl ⟨rfl, rfl, Nat.le_of_ble_eq_true rfl, Nat.le_of_ble_eq_true rfl⟩ ⟨Nat.zero_le _, Nat.zero_le _⟩ (g_recv (a := aG) (k := 1) hK hG rfl rfl) hG hS (fun _ h => h.elim) rfl (Nat.le_of_ble_eq_true rfl) dX5_allGoodsOf_9 (fun r2 u H locs h hu _ hq hS => ?_)
  have hG := hG.past hq (fun _ _ h => h)
  refine lv_iadd hx hb dX5_allGoodsOf_12 ?_
  refine lv_aload_n hx hb dX5_allGoodsOf_13 rfl (lv_at hl 0 rfl) ?_
  refine lv_iload_n hx hb dX5_allGoodsOf_14 rfl (lv_at hl 1 rfl) ?_
  refine lv_iconst (v := 2) hx hb dX5_allGoodsOf_15 (by decide) ?_
  refine g_vI C hK hl.1 (m_X5_amountOf l G aG γ x1 2 _ h) mw_X5_amountOf mi_X5_amountOf ml_X5_29 rfl ⟨rfl, rfl, Nat.le_of_ble_eq_true rfl, Nat.le_of_ble_eq_true rfl⟩ ⟨Nat.zero_le _, Nat.zero_le _⟩ (g_recv (a := aG) (k := 1) hK hG rfl rfl) hG hS (fun _ h => h.elim) rfl (Nat.le_of_ble_eq_true rfl) dX5_allGoodsOf_16 (fun r3 u H locs h hu _ hq hS => ?_)
  have hG := hG.past hq (fun _ _ h => h)
  refine lv_iadd hx hb dX5_allGoodsOf_19 ?_
  exact g_iret (post := fun r (_ : Unit) => Q r) (P' := fun _ _ => True) (r := ((r1 + r2) + r3)) (u := ()) C hr hK hS h trivial dX5_allGoodsOf_20
theorem dX5_isAheadOf_0 : decode cX5_isAheadOf 0 = .ok (.aload_n 0, 1) := by decide +kernel
theorem dX5_isAheadOf_1 : decode cX5_isAheadOf 1 = .ok (.getfield 15, 3) := by decide +kernel
theorem dX5_isAheadOf_4 : decode cX5_isAheadOf 4 = .ok (.iload_n 1, 1) := by decide +kernel
theorem dX5_isAheadOf_5 : decode cX5_isAheadOf 5 = .ok (.iaload, 1) := by decide +kernel
theorem dX5_isAheadOf_6 : decode cX5_isAheadOf 6 = .ok (.aload_n 0, 1) := by decide +kernel
theorem dX5_isAheadOf_7 : decode cX5_isAheadOf 7 = .ok (.getfield 15, 3) := by decide +kernel
theorem dX5_isAheadOf_10 : decode cX5_isAheadOf 10 = .ok (.iload_n 2, 1) := by decide +kernel
theorem dX5_isAheadOf_11 : decode cX5_isAheadOf 11 = .ok (.iaload, 1) := by decide +kernel
theorem dX5_isAheadOf_12 : decode cX5_isAheadOf 12 = .ok (.if_icmp .eq 24, 3) := by decide +kernel
theorem dX5_isAheadOf_15 : decode cX5_isAheadOf 15 = .ok (.aload_n 0, 1) := by decide +kernel
theorem dX5_isAheadOf_16 : decode cX5_isAheadOf 16 = .ok (.getfield 15, 3) := by decide +kernel
theorem dX5_isAheadOf_19 : decode cX5_isAheadOf 19 = .ok (.iload_n 1, 1) := by decide +kernel
theorem dX5_isAheadOf_20 : decode cX5_isAheadOf 20 = .ok (.iaload, 1) := by decide +kernel
theorem dX5_isAheadOf_21 : decode cX5_isAheadOf 21 = .ok (.aload_n 0, 1) := by decide +kernel
theorem dX5_isAheadOf_22 : decode cX5_isAheadOf 22 = .ok (.getfield 15, 3) := by decide +kernel
theorem dX5_isAheadOf_25 : decode cX5_isAheadOf 25 = .ok (.iload_n 2, 1) := by decide +kernel
theorem dX5_isAheadOf_26 : decode cX5_isAheadOf 26 = .ok (.iaload, 1) := by decide +kernel
theorem dX5_isAheadOf_27 : decode cX5_isAheadOf 27 = .ok (.if_icmp .le 7, 3) := by decide +kernel
theorem dX5_isAheadOf_30 : decode cX5_isAheadOf 30 = .ok (.iconst 1, 1) := by decide +kernel
theorem dX5_isAheadOf_31 : decode cX5_isAheadOf 31 = .ok (.goto 4, 3) := by decide +kernel
theorem dX5_isAheadOf_34 : decode cX5_isAheadOf 34 = .ok (.iconst 0, 1) := by decide +kernel
theorem dX5_isAheadOf_35 : decode cX5_isAheadOf 35 = .ok (.ireturn, 1) := by decide +kernel
theorem dX5_isAheadOf_36 : decode cX5_isAheadOf 36 = .ok (.aload_n 0, 1) := by decide +kernel
theorem dX5_isAheadOf_37 : decode cX5_isAheadOf 37 = .ok (.iload_n 1, 1) := by decide +kernel
theorem dX5_isAheadOf_38 : decode cX5_isAheadOf 38 = .ok (.invokevirtual 45, 3) := by decide +kernel
theorem dX5_isAheadOf_41 : decode cX5_isAheadOf 41 = .ok (.aload_n 0, 1) := by decide +kernel
theorem dX5_isAheadOf_42 : decode cX5_isAheadOf 42 = .ok (.iload_n 2, 1) := by decide +kernel
theorem dX5_isAheadOf_43 : decode cX5_isAheadOf 43 = .ok (.invokevirtual 45, 3) := by decide +kernel
theorem dX5_isAheadOf_46 : decode cX5_isAheadOf 46 = .ok (.if_icmp .le 7, 3) := by decide +kernel
theorem dX5_isAheadOf_49 : decode cX5_isAheadOf 49 = .ok (.iconst 1, 1) := by decide +kernel
theorem dX5_isAheadOf_50 : decode cX5_isAheadOf 50 = .ok (.goto 4, 3) := by decide +kernel
theorem dX5_isAheadOf_53 : decode cX5_isAheadOf 53 = .ok (.iconst 0, 1) := by decide +kernel
theorem dX5_isAheadOf_54 : decode cX5_isAheadOf 54 = .ok (.ireturn, 1) := by decide +kernel
def vc_X5_isAheadOf (Q : Int32 → Prop) (γ : Mem) (x1 : Int32) (x2 : Int32) : Prop :=
  vp_in x1 4 ∧ (vp_in x2 4 ∧ ((((γ 3 x1.toNatClampNeg) = (γ 3 x2.toNatClampNeg)) → (vc_X5_allGoodsOf (fun r4 => vc_X5_allGoodsOf (fun r5 => ((r4 ≤ r5) → (Q 0 )) ∧ ((¬ r4 ≤ r5) → (Q 1 ))) γ x2) γ x1)) ∧ ((¬ (γ 3 x1.toNatClampNeg) = (γ 3 x2.toNatClampNeg)) → ((((((γ 3 x1.toNatClampNeg) ≤ (γ 3 x2.toNatClampNeg)) → (Q 0 )) ∧ ((¬ (γ 3 x1.toNatClampNeg) ≤ (γ 3 x2.toNatClampNeg)) → (Q 1 ))))))))
set_option maxHeartbeats 8000000 in
set_option maxRecDepth 100000 in
theorem m_X5_isAheadOf (l : Launch) (G : GG) (aG : Nat) (γ : Mem) (x1 : Int32) (x2 : Int32) (Q : Int32 → Prop) (h : vc_X5_isAheadOf Q γ x1 x2) : CtI l yX5_isAheadOf cX5_isAheadOf 3 (some .boolean) { frames := 2, cells := 0, slots := 0, locals := 43 } [.ref (aG + 1), .int x1, .int x2] G (fun H => rg G LG aG γ H) (fun r (_ : Unit) => Q r) (fun _ _ => True) (fun _ => False) := by
  unfold CtI
  refine met_start (y := yX5_isAheadOf) (maxL := 3) (av := [.ref (aG + 1), .int x1, .int x2]) (G := G) (P := fun H => rg G LG aG γ H) (by decide) rfl (Nat.le_of_ble_eq_true rfl) (fun p e s m below meth c ls C hr hP hK hl => ?_)
  obtain ⟨hx, hb, hml, hown, hts, hlocks⟩ := id C
  have hG : rg G LG aG γ s.heap := hP
  have hS : va_S (fun _ => False) s.heap s.heap [] := va_S.rf
  have hl : lv_has ls 3 [(0, .ref (aG + 1)), (1, .int x1), (2, .int x2)] := hl
  unfold vc_X5_isAheadOf at h
  refine lv_aload_n hx hb dX5_isAheadOf_0 rfl (lv_at hl 0 rfl) ?_
  refine g_getR (a := aG) (k := 1) (o := 3) C hK hG fl_X5_15 rfl rfl dX5_isAheadOf_1 ?_
  refine lv_iload_n hx hb dX5_isAheadOf_4 rfl (lv_at hl 1 rfl) ?_
  obtain ⟨b1, h⟩ := h
  refine g_ald (a := aG) (k := 3) (n := 4) C hK hG rfl b1 dX5_isAheadOf_5 ?_
  refine lv_aload_n hx hb dX5_isAheadOf_6 rfl (lv_at hl 0 rfl) ?_
  refine g_getR (a := aG) (k := 1) (o := 3) C hK hG fl_X5_15 rfl rfl dX5_isAheadOf_7 ?_
  refine lv_iload_n hx hb dX5_isAheadOf_10 rfl (lv_at hl 2 rfl) ?_
  obtain ⟨b2, h⟩ := h
  refine g_ald (a := aG) (k := 3) (n := 4) C hK hG rfl b2 dX5_isAheadOf_11 ?_
  refine lv_icmp_eq (tgt := 36) hx hb dX5_isAheadOf_12 (by decide) (fun c3 => ?_) (fun c3 => ?_)
  · replace h := h.1 c3
    refine lv_aload_n hx hb dX5_isAheadOf_36 rfl (lv_at hl 0 rfl) ?_
    refine lv_iload_n hx hb dX5_isAheadOf_37 rfl (lv_at hl 1 rfl) ?_
    refine g_vI C hK hl.1 (m_X5_allGoodsOf l G aG γ x1 _ h) mw_X5_allGoodsOf mi_X5_allGoodsOf ml_X5_45 rfl ⟨rfl, rfl, Nat.le_of_ble_eq_true rfl, Nat.le_of_ble_eq_true rfl⟩ ⟨Nat.zero_le _, Nat.zero_le _⟩ (g_recv (a := aG) (k := 1) hK hG rfl rfl) hG hS (fun _ h => h.elim) rfl (Nat.le_of_ble_eq_true rfl) dX5_isAheadOf_38 (fun r4 u H locs h hu _ hq hS => ?_)
    have hG := hG.past hq (fun _ _ h => h)
    refine lv_aload_n hx hb dX5_isAheadOf_41 rfl (lv_at hl 0 rfl) ?_
    refine lv_iload_n hx hb dX5_isAheadOf_42 rfl (lv_at hl 2 rfl) ?_
    refine g_vI C hK hl.1 (m_X5_allGoodsOf l G aG γ x2 _ h) mw_X5_allGoodsOf mi_X5_allGoodsOf ml_X5_45 rfl ⟨rfl, rfl, Nat.le_of_ble_eq_true rfl, Nat.le_of_ble_eq_true rfl⟩ ⟨Nat.zero_le _, Nat.zero_le _⟩ (g_recv (a := aG) (k := 1) hK hG rfl rfl) hG hS (fun _ h => h.elim) rfl (Nat.le_of_ble_eq_true rfl) dX5_isAheadOf_43 (fun r5 u H locs h hu _ hq hS => ?_)
    have hG := hG.past hq (fun _ _ h => h)
    refine lv_icmp_le (tgt := 53) hx hb dX5_isAheadOf_46 (by decide) (fun c6 => ?_) (fun c6 => ?_)
    · replace h := h.1 c6
      refine lv_iconst (v := 0) hx hb dX5_isAheadOf_53 (by decide) ?_
      exact g_zret (post := fun r (_ : Unit) => Q r) (P' := fun _ _ => True) (r := 0) (u := ()) C hr hK hS (by rfl) h trivial dX5_isAheadOf_54
    · replace h := h.2 c6
      refine lv_iconst (v := 1) hx hb dX5_isAheadOf_49 (by decide) ?_
      refine lv_goto (tgt := 54) hx hb dX5_isAheadOf_50 (by decide) ?_
      exact g_zret (post := fun r (_ : Unit) => Q r) (P' := fun _ _ => True) (r := 1) (u := ()) C hr hK hS (by rfl) h trivial dX5_isAheadOf_54
  · replace h := h.2 c3
    refine lv_aload_n hx hb dX5_isAheadOf_15 rfl (lv_at hl 0 rfl) ?_
    refine g_getR (a := aG) (k := 1) (o := 3) C hK hG fl_X5_15 rfl rfl dX5_isAheadOf_16 ?_
    refine lv_iload_n hx hb dX5_isAheadOf_19 rfl (lv_at hl 1 rfl) ?_
    refine g_ald (a := aG) (k := 3) (n := 4) C hK hG rfl b1 dX5_isAheadOf_20 ?_
    refine lv_aload_n hx hb dX5_isAheadOf_21 rfl (lv_at hl 0 rfl) ?_
    refine g_getR (a := aG) (k := 1) (o := 3) C hK hG fl_X5_15 rfl rfl dX5_isAheadOf_22 ?_
    refine lv_iload_n hx hb dX5_isAheadOf_25 rfl (lv_at hl 2 rfl) ?_
    refine g_ald (a := aG) (k := 3) (n := 4) C hK hG rfl b2 dX5_isAheadOf_26 ?_
    refine lv_icmp_le (tgt := 34) hx hb dX5_isAheadOf_27 (by decide) (fun c7 => ?_) (fun c7 => ?_)
    · replace h := h.1 c7
      refine lv_iconst (v := 0) hx hb dX5_isAheadOf_34 (by decide) ?_
      exact g_zret (post := fun r (_ : Unit) => Q r) (P' := fun _ _ => True) (r := 0) (u := ()) C hr hK hS (by rfl) h trivial dX5_isAheadOf_35
    · replace h := h.2 c7
      refine lv_iconst (v := 1) hx hb dX5_isAheadOf_30 (by decide) ?_
      refine lv_goto (tgt := 35) hx hb dX5_isAheadOf_31 (by decide) ?_
      exact g_zret (post := fun r (_ : Unit) => Q r) (P' := fun _ _ => True) (r := 1) (u := ()) C hr hK hS (by rfl) h trivial dX5_isAheadOf_35
theorem dX5_ahead_0 : decode cX5_ahead 0 = .ok (.aload_n 0, 1) := by decide +kernel
theorem dX5_ahead_1 : decode cX5_ahead 1 = .ok (.getfield 18, 3) := by decide +kernel
theorem dX5_ahead_4 : decode cX5_ahead 4 = .ok (.ifCond .ne 6, 3) := by decide +kernel
theorem dX5_ahead_7 : decode cX5_ahead 7 = .ok (.ldc 49, 2) := by decide +kernel
theorem dX5_ahead_9 : decode cX5_ahead 9 = .ok (.ireturn, 1) := by decide +kernel
theorem dX5_ahead_10 : decode cX5_ahead 10 = .ok (.iconst 0, 1) := by decide +kernel
theorem dX5_ahead_11 : decode cX5_ahead 11 = .ok (.istore_n 1, 1) := by decide +kernel
theorem dX5_ahead_12 : decode cX5_ahead 12 = .ok (.iconst 1, 1) := by decide +kernel
theorem dX5_ahead_13 : decode cX5_ahead 13 = .ok (.istore_n 2, 1) := by decide +kernel
theorem dX5_ahead_14 : decode cX5_ahead 14 = .ok (.iload_n 2, 1) := by decide +kernel
theorem dX5_ahead_15 : decode cX5_ahead 15 = .ok (.aload_n 0, 1) := by decide +kernel
theorem dX5_ahead_16 : decode cX5_ahead 16 = .ok (.getfield 18, 3) := by decide +kernel
theorem dX5_ahead_19 : decode cX5_ahead 19 = .ok (.if_icmp .ge 25, 3) := by decide +kernel
theorem dX5_ahead_22 : decode cX5_ahead 22 = .ok (.iload_n 2, 1) := by decide +kernel
theorem dX5_ahead_23 : decode cX5_ahead 23 = .ok (.iconst 4, 1) := by decide +kernel
theorem dX5_ahead_24 : decode cX5_ahead 24 = .ok (.if_icmp .ge 20, 3) := by decide +kernel
theorem dX5_ahead_27 : decode cX5_ahead 27 = .ok (.aload_n 0, 1) := by decide +kernel
theorem dX5_ahead_28 : decode cX5_ahead 28 = .ok (.iload_n 2, 1) := by decide +kernel
theorem dX5_ahead_29 : decode cX5_ahead 29 = .ok (.iload_n 1, 1) := by decide +kernel
theorem dX5_ahead_30 : decode cX5_ahead 30 = .ok (.invokevirtual 50, 3) := by decide +kernel
theorem dX5_ahead_33 : decode cX5_ahead 33 = .ok (.ifCond .eq 5, 3) := by decide +kernel
theorem dX5_ahead_36 : decode cX5_ahead 36 = .ok (.iload_n 2, 1) := by decide +kernel
theorem dX5_ahead_37 : decode cX5_ahead 37 = .ok (.istore_n 1, 1) := by decide +kernel
theorem dX5_ahead_38 : decode cX5_ahead 38 = .ok (.iinc 2 1, 3) := by decide +kernel
theorem dX5_ahead_41 : decode cX5_ahead 41 = .ok (.goto (-27), 3) := by decide +kernel
theorem dX5_ahead_44 : decode cX5_ahead 44 = .ok (.iload_n 1, 1) := by decide +kernel
theorem dX5_ahead_45 : decode cX5_ahead 45 = .ok (.ireturn, 1) := by decide +kernel
def vb_X5_ahead_14 (Q : Int32 → Prop) (γ : Mem) (rec : Nat → Int32 → Int32 → Prop) (w1 : Int32) (w2 : Int32) : Prop :=
  (((γ 1 0) ≤ w2) → (Q w1 )) ∧ ((¬ (γ 1 0) ≤ w2) → (((4 ≤ w2) → (Q w1 )) ∧ ((¬ 4 ≤ w2) → (vc_X5_isAheadOf (fun r4 => ((r4 = 0) → (∀ v6 : Int32, v6 = w2 + 1 → (rec 0 w1 v6))) ∧ ((¬ r4 = 0) → (∀ v7 : Int32, v7 = w2 + 1 → (rec 0 w2 v7)))) γ w2 w1))))
def vl_X5_ahead (Q : Int32 → Prop) (γ : Mem) : Nat → Nat → Int32 → Int32 → Prop
  | 0, _, _, _ => False
  | n + 1, 0, w1, w2 => vb_X5_ahead_14 Q γ (vl_X5_ahead Q γ n) w1 w2
  | _ + 1, _, _, _ => False
def vc_X5_ahead (Q : Int32 → Prop) (γ : Mem) : Prop :=
  ∃ n : Nat, ((¬ (γ 1 0) = 0) → (vl_X5_ahead Q γ n 0 0 1)) ∧ (((γ 1 0) = 0) → (Q (-1000004) ))
set_option maxHeartbeats 8000000 in
set_option maxRecDepth 100000 in
theorem m_X5_ahead (l : Launch) (G : GG) (aG : Nat) (γ : Mem) (Q : Int32 → Prop) (h : vc_X5_ahead Q γ) : CtI l yX5_ahead cX5_ahead 3 (some .int) { frames := 3, cells := 0, slots := 0, locals := 65 } [.ref (aG + 1)] G (fun H => rg G LG aG γ H) (fun r (_ : Unit) => Q r) (fun _ _ => True) (fun _ => False) := by
  unfold CtI
  refine met_start (y := yX5_ahead) (maxL := 3) (av := [.ref (aG + 1)]) (G := G) (P := fun H => rg G LG aG γ H) (by decide) rfl (Nat.le_of_ble_eq_true rfl) (fun p e s m below meth c ls C hr hP hK hl => ?_)
  obtain ⟨hx, hb, hml, hown, hts, hlocks⟩ := id C
  have hG : rg G LG aG γ s.heap := hP
  have hS : va_S (fun _ => False) s.heap s.heap [] := va_S.rf
  have hl : lv_has ls 3 [(0, .ref (aG + 1))] := hl
  have K : ∀ n : Nat, (∀ (w1 : Int32) (w2 : Int32) (H : Heap) (locs : List Loc) (ls : Array Slot), rg G LG aG γ H → va_S (fun _ => False) s.heap H locs → lv_has ls 3 [(0, .ref (aG + 1)), (1, .int w1), (2, .int w2)] → vl_X5_ahead Q γ n 0 w1 w2 → W p l e { frames := 3, cells := 0, slots := 0, locals := 65 } s m [.ref (aG + 1)].toArray below meth c H locs 0 0 (MQ below (va_Qi (fun r (_ : Unit) => Q r) (fun u t => (fun _ _ => True) u t.heap ∧ KK G t) (fun _ => False)) [.ref (aG + 1)].toArray s 0 0 (fun _ => False)) (F0 m 14 ls [])) := by
    intro n
    induction n with
    | zero => exact fun _ _ _ _ _ _ _ _ h => h.elim
    | succ n ih =>
      · intro w1 w2 H locs ls hG hS hl h
        replace h : vb_X5_ahead_14 Q γ (vl_X5_ahead Q γ n) w1 w2 := h
        unfold vb_X5_ahead_14 at h
        refine lv_iload_n hx hb dX5_ahead_14 rfl (lv_at hl 2 rfl) ?_
        refine lv_aload_n hx hb dX5_ahead_15 rfl (lv_at hl 0 rfl) ?_
        refine g_getI (a := aG) (k := 1) C hK hG fl_X5_18 rfl rfl dX5_ahead_16 ?_
        refine lv_icmp_ge (tgt := 44) hx hb dX5_ahead_19 (by decide) (fun c2 => ?_) (fun c2 => ?_)
        · replace h := h.1 c2
          refine lv_iload_n hx hb dX5_ahead_44 rfl (lv_at hl 1 rfl) ?_
          exact g_iret (post := fun r (_ : Unit) => Q r) (P' := fun _ _ => True) (r := w1) (u := ()) C hr hK hS h trivial dX5_ahead_45
        · replace h := h.2 c2
          refine lv_iload_n hx hb dX5_ahead_22 rfl (lv_at hl 2 rfl) ?_
          refine lv_iconst (v := 4) hx hb dX5_ahead_23 (by decide) ?_
          refine lv_icmp_ge (tgt := 44) hx hb dX5_ahead_24 (by decide) (fun c3 => ?_) (fun c3 => ?_)
          · replace h := h.1 c3
            refine lv_iload_n hx hb dX5_ahead_44 rfl (lv_at hl 1 rfl) ?_
            exact g_iret (post := fun r (_ : Unit) => Q r) (P' := fun _ _ => True) (r := w1) (u := ()) C hr hK hS h trivial dX5_ahead_45
          · replace h := h.2 c3
            refine lv_aload_n hx hb dX5_ahead_27 rfl (lv_at hl 0 rfl) ?_
            refine lv_iload_n hx hb dX5_ahead_28 rfl (lv_at hl 2 rfl) ?_
            refine lv_iload_n hx hb dX5_ahead_29 rfl (lv_at hl 1 rfl) ?_
            refine g_vI C hK hl.1 (m_X5_isAheadOf l G aG γ w2 w1 _ h) mw_X5_isAheadOf mi_X5_isAheadOf ml_X5_50 rfl ⟨rfl, rfl, Nat.le_of_ble_eq_true rfl, Nat.le_of_ble_eq_true rfl⟩ ⟨Nat.zero_le _, Nat.zero_le _⟩ (g_recv (a := aG) (k := 1) hK hG rfl rfl) hG hS (fun _ h => h.elim) rfl (Nat.le_of_ble_eq_true rfl) dX5_ahead_30 (fun r4 u H locs h hu _ hq hS => ?_)
            have hG := hG.past hq (fun _ _ h => h)
            refine lv_if_eq (tgt := 38) hx hb dX5_ahead_33 (by decide) (fun c5 => ?_) (fun c5 => ?_)
            · replace h := h.1 c5
              obtain ⟨v6, ev6⟩ : ∃ y : Int32, y = w2 + 1 := ⟨_, rfl⟩
              specialize h v6 ev6
              refine lv_iinc (v := v6) (lv' := [(2, .int v6), (0, .ref (aG + 1)), (1, .int w1)]) hx hb dX5_ahead_38 hl (k := 2) rfl (by rw [ev6]; rfl) (by decide) rfl (fun ls hl => ?_)
              refine lv_goto (tgt := 14) hx hb dX5_ahead_41 (by decide) ?_
              exact (ih) w1 v6 _ _ _ hG hS (lv_sub hl [1, 2, 0] rfl) h
            · replace h := h.2 c5
              refine lv_iload_n hx hb dX5_ahead_36 rfl (lv_at hl 2 rfl) ?_
              refine lv_istore_n (lv' := [(1, .int w2), (0, .ref (aG + 1)), (2, .int w2)]) hx hb dX5_ahead_37 rfl hl (by decide) rfl (fun ls hl => ?_)
              obtain ⟨v7, ev7⟩ : ∃ y : Int32, y = w2 + 1 := ⟨_, rfl⟩
              specialize h v7 ev7
              refine lv_iinc (v := v7) (lv' := [(2, .int v7), (1, .int w2), (0, .ref (aG + 1))]) hx hb dX5_ahead_38 hl (k := 2) rfl (by rw [ev7]; rfl) (by decide) rfl (fun ls hl => ?_)
              refine lv_goto (tgt := 14) hx hb dX5_ahead_41 (by decide) ?_
              exact (ih) w2 v7 _ _ _ hG hS (lv_sub hl [2, 1, 0] rfl) h
  unfold vc_X5_ahead at h
  obtain ⟨n, h⟩ := h
  refine lv_aload_n hx hb dX5_ahead_0 rfl (lv_at hl 0 rfl) ?_
  refine g_getI (a := aG) (k := 1) C hK hG fl_X5_18 rfl rfl dX5_ahead_1 ?_
  refine lv_if_ne (tgt := 10) hx hb dX5_ahead_4 (by decide) (fun c1 => ?_) (fun c1 => ?_)
  · replace h := h.1 c1
    refine lv_iconst (v := 0) hx hb dX5_ahead_10 (by decide) ?_
    refine lv_istore_n (lv' := [(1, .int 0), (0, .ref (aG + 1))]) hx hb dX5_ahead_11 rfl hl (by decide) rfl (fun ls hl => ?_)
    refine lv_iconst (v := 1) hx hb dX5_ahead_12 (by decide) ?_
    refine lv_istore_n (lv' := [(2, .int 1), (1, .int 0), (0, .ref (aG + 1))]) hx hb dX5_ahead_13 rfl hl (by decide) rfl (fun ls hl => ?_)
    exact ((K n)) 0 1 _ _ _ hG hS (lv_sub hl [2, 1, 0] rfl) h
  · replace h := h.2 c1
    refine g_ldc C kc_X5_49 dX5_ahead_7 ?_
    exact g_iret (post := fun r (_ : Unit) => Q r) (P' := fun _ _ => True) (r := (-1000004)) (u := ()) C hr hK hS h trivial dX5_ahead_9
theorem dX2_isOut_0 : decode cX2_isOut 0 = .ok (.aload_n 0, 1) := by decide +kernel
theorem dX2_isOut_1 : decode cX2_isOut 1 = .ok (.getfield 18, 3) := by decide +kernel
theorem dX2_isOut_4 : decode cX2_isOut 4 = .ok (.iload_n 1, 1) := by decide +kernel
theorem dX2_isOut_5 : decode cX2_isOut 5 = .ok (.iaload, 1) := by decide +kernel
theorem dX2_isOut_6 : decode cX2_isOut 6 = .ok (.ifCond .ne 7, 3) := by decide +kernel
theorem dX2_isOut_9 : decode cX2_isOut 9 = .ok (.iconst 1, 1) := by decide +kernel
theorem dX2_isOut_10 : decode cX2_isOut 10 = .ok (.goto 4, 3) := by decide +kernel
theorem dX2_isOut_13 : decode cX2_isOut 13 = .ok (.iconst 0, 1) := by decide +kernel
theorem dX2_isOut_14 : decode cX2_isOut 14 = .ok (.ireturn, 1) := by decide +kernel
def vc_X2_isOut (Q : Int32 → Prop) (γ : Mem) (x1 : Int32) : Prop :=
  vp_in x1 12 ∧ (((¬ (γ 7 x1.toNatClampNeg) = 0) → (Q 0 )) ∧ (((γ 7 x1.toNatClampNeg) = 0) → (Q 1 )))
set_option maxHeartbeats 8000000 in
set_option maxRecDepth 100000 in
theorem m_X2_isOut (l : Launch) (G : GG) (aG : Nat) (γ : Mem) (x1 : Int32) (Q : Int32 → Prop) (h : vc_X2_isOut Q γ x1) : CtI l yX2_isOut cX2_isOut 2 (some .boolean) { frames := 0, cells := 0, slots := 0, locals := 0 } [.ref (aG + 4), .int x1] G (fun H => rg G LG aG γ H) (fun r (_ : Unit) => Q r) (fun _ _ => True) (fun _ => False) := by
  unfold CtI
  refine met_start (y := yX2_isOut) (maxL := 2) (av := [.ref (aG + 4), .int x1]) (G := G) (P := fun H => rg G LG aG γ H) (by decide) rfl (Nat.le_of_ble_eq_true rfl) (fun p e s m below meth c ls C hr hP hK hl => ?_)
  obtain ⟨hx, hb, hml, hown, hts, hlocks⟩ := id C
  have hG : rg G LG aG γ s.heap := hP
  have hS : va_S (fun _ => False) s.heap s.heap [] := va_S.rf
  have hl : lv_has ls 2 [(0, .ref (aG + 4)), (1, .int x1)] := hl
  unfold vc_X2_isOut at h
  refine lv_aload_n hx hb dX2_isOut_0 rfl (lv_at hl 0 rfl) ?_
  refine g_getR (a := aG) (k := 4) (o := 7) C hK hG fl_X2_18 rfl rfl dX2_isOut_1 ?_
  refine lv_iload_n hx hb dX2_isOut_4 rfl (lv_at hl 1 rfl) ?_
  obtain ⟨b1, h⟩ := h
  refine g_ald (a := aG) (k := 7) (n := 12) C hK hG rfl b1 dX2_isOut_5 ?_
  refine lv_if_ne (tgt := 13) hx hb dX2_isOut_6 (by decide) (fun c2 => ?_) (fun c2 => ?_)
  · replace h := h.1 c2
    refine lv_iconst (v := 0) hx hb dX2_isOut_13 (by decide) ?_
    exact g_zret (post := fun r (_ : Unit) => Q r) (P' := fun _ _ => True) (r := 0) (u := ()) C hr hK hS (by rfl) h trivial dX2_isOut_14
  · replace h := h.2 c2
    refine lv_iconst (v := 1) hx hb dX2_isOut_9 (by decide) ?_
    refine lv_goto (tgt := 14) hx hb dX2_isOut_10 (by decide) ?_
    exact g_zret (post := fun r (_ : Unit) => Q r) (P' := fun _ _ => True) (r := 1) (u := ()) C hr hK hS (by rfl) h trivial dX2_isOut_14
theorem dX2_start_0 : decode cX2_start 0 = .ok (.aload_n 0, 1) := by decide +kernel
theorem dX2_start_1 : decode cX2_start 1 = .ok (.getfield 15, 3) := by decide +kernel
theorem dX2_start_4 : decode cX2_start 4 = .ok (.iload_n 1, 1) := by decide +kernel
theorem dX2_start_5 : decode cX2_start 5 = .ok (.iload_n 2, 1) := by decide +kernel
theorem dX2_start_6 : decode cX2_start 6 = .ok (.iastore, 1) := by decide +kernel
theorem dX2_start_7 : decode cX2_start 7 = .ok (.aload_n 0, 1) := by decide +kernel
theorem dX2_start_8 : decode cX2_start 8 = .ok (.getfield 18, 3) := by decide +kernel
theorem dX2_start_11 : decode cX2_start 11 = .ok (.iload_n 1, 1) := by decide +kernel
theorem dX2_start_12 : decode cX2_start 12 = .ok (.aload_n 0, 1) := by decide +kernel
theorem dX2_start_13 : decode cX2_start 13 = .ok (.getfield 9, 3) := by decide +kernel
theorem dX2_start_16 : decode cX2_start 16 = .ok (.iload_n 1, 1) := by decide +kernel
theorem dX2_start_17 : decode cX2_start 17 = .ok (.iaload, 1) := by decide +kernel
theorem dX2_start_18 : decode cX2_start 18 = .ok (.iastore, 1) := by decide +kernel
theorem dX2_start_19 : decode cX2_start 19 = .ok (.aload_n 0, 1) := by decide +kernel
theorem dX2_start_20 : decode cX2_start 20 = .ok (.getfield 21, 3) := by decide +kernel
theorem dX2_start_23 : decode cX2_start 23 = .ok (.iload_n 1, 1) := by decide +kernel
theorem dX2_start_24 : decode cX2_start 24 = .ok (.aload_n 0, 1) := by decide +kernel
theorem dX2_start_25 : decode cX2_start 25 = .ok (.getfield 33, 3) := by decide +kernel
theorem dX2_start_28 : decode cX2_start 28 = .ok (.iastore, 1) := by decide +kernel
theorem dX2_start_29 : decode cX2_start 29 = .ok (.aload_n 0, 1) := by decide +kernel
theorem dX2_start_30 : decode cX2_start 30 = .ok (.dup, 1) := by decide +kernel
theorem dX2_start_31 : decode cX2_start 31 = .ok (.getfield 33, 3) := by decide +kernel
theorem dX2_start_34 : decode cX2_start 34 = .ok (.iconst 1, 1) := by decide +kernel
theorem dX2_start_35 : decode cX2_start 35 = .ok (.iadd, 1) := by decide +kernel
theorem dX2_start_36 : decode cX2_start 36 = .ok (.putfield 33, 3) := by decide +kernel
theorem dX2_start_39 : decode cX2_start 39 = .ok (.return_, 1) := by decide +kernel
def vc_X2_start (Q : Mem → Prop) (γ : Mem) (x1 : Int32) (x2 : Int32) : Prop :=
  vp_in x1 12 ∧ (∀ γ2 : Mem, γ2 = up γ 6 x1.toNatClampNeg x2 → (((∀ γ3 : Mem, γ3 = up γ2 7 x1.toNatClampNeg (γ2 5 x1.toNatClampNeg) → ((∀ γ4 : Mem, γ4 = up γ3 8 x1.toNatClampNeg (γ3 4 0) → (∀ γ5 : Mem, γ5 = up γ4 4 0 ((γ4 4 0) + 1) → (Q γ5))))))))
set_option maxHeartbeats 8000000 in
set_option maxRecDepth 100000 in
theorem m_X2_start (l : Launch) (G : GG) (aG : Nat) (γ : Mem) (x1 : Int32) (x2 : Int32) (Q : Mem → Prop) (h : vc_X2_start Q γ x1 x2) : CtV l yX2_start cX2_start 3 { frames := 0, cells := 0, slots := 0, locals := 0 } [.ref (aG + 4), .int x1, .int x2] G (fun H => rg G LG aG γ H) (Q) (fun u H => rg G LG aG u H) (RA aG 22) := by
  unfold CtV
  refine met_start (y := yX2_start) (maxL := 3) (av := [.ref (aG + 4), .int x1, .int x2]) (G := G) (P := fun H => rg G LG aG γ H) (by decide) rfl (Nat.le_of_ble_eq_true rfl) (fun p e s m below meth c ls C hr hP hK hl => ?_)
  obtain ⟨hx, hb, hml, hown, hts, hlocks⟩ := id C
  have hG : rg G LG aG γ s.heap := hP
  have hS : va_S (RA aG 22) s.heap s.heap [] := va_S.rf
  have hl : lv_has ls 3 [(0, .ref (aG + 4)), (1, .int x1), (2, .int x2)] := hl
  unfold vc_X2_start at h
  refine lv_aload_n hx hb dX2_start_0 rfl (lv_at hl 0 rfl) ?_
  refine g_getR (a := aG) (k := 4) (o := 6) C hK hG fl_X2_15 rfl rfl dX2_start_1 ?_
  refine lv_iload_n hx hb dX2_start_4 rfl (lv_at hl 1 rfl) ?_
  refine lv_iload_n hx hb dX2_start_5 rfl (lv_at hl 2 rfl) ?_
  obtain ⟨b1, h⟩ := h
  refine g_ast (a := aG) (k := 6) (n := 12) C hK hG hS rfl b1 (RA_in (by decide)) dX2_start_6 (fun γ2 H locs eγ2 hG hS hq => ?_)
  specialize h γ2 eγ2
  refine lv_aload_n hx hb dX2_start_7 rfl (lv_at hl 0 rfl) ?_
  refine g_getR (a := aG) (k := 4) (o := 7) C hK hG fl_X2_18 rfl rfl dX2_start_8 ?_
  refine lv_iload_n hx hb dX2_start_11 rfl (lv_at hl 1 rfl) ?_
  refine lv_aload_n hx hb dX2_start_12 rfl (lv_at hl 0 rfl) ?_
  refine g_getR (a := aG) (k := 4) (o := 5) C hK hG fl_X2_9 rfl rfl dX2_start_13 ?_
  refine lv_iload_n hx hb dX2_start_16 rfl (lv_at hl 1 rfl) ?_
  refine g_ald (a := aG) (k := 5) (n := 12) C hK hG rfl b1 dX2_start_17 ?_
  refine g_ast (a := aG) (k := 7) (n := 12) C hK hG hS rfl b1 (RA_in (by decide)) dX2_start_18 (fun γ3 H locs eγ3 hG hS hq => ?_)
  specialize h γ3 eγ3
  refine lv_aload_n hx hb dX2_start_19 rfl (lv_at hl 0 rfl) ?_
  refine g_getR (a := aG) (k := 4) (o := 8) C hK hG fl_X2_21 rfl rfl dX2_start_20 ?_
  refine lv_iload_n hx hb dX2_start_23 rfl (lv_at hl 1 rfl) ?_
  refine lv_aload_n hx hb dX2_start_24 rfl (lv_at hl 0 rfl) ?_
  refine g_getI (a := aG) (k := 4) C hK hG fl_X2_33 rfl rfl dX2_start_25 ?_
  refine g_ast (a := aG) (k := 8) (n := 12) C hK hG hS rfl b1 (RA_in (by decide)) dX2_start_28 (fun γ4 H locs eγ4 hG hS hq => ?_)
  specialize h γ4 eγ4
  refine lv_aload_n hx hb dX2_start_29 rfl (lv_at hl 0 rfl) ?_
  refine lv_dup hx hb dX2_start_30 rfl ?_
  refine g_getI (a := aG) (k := 4) C hK hG fl_X2_33 rfl rfl dX2_start_31 ?_
  refine lv_iconst (v := 1) hx hb dX2_start_34 (by decide) ?_
  refine lv_iadd hx hb dX2_start_35 ?_
  refine g_put (a := aG) (k := 4) C hK hG hS fl_X2_33 fp_X2_0 rfl rfl (by rfl) (by rfl) (RA_in (by decide)) dX2_start_36 (fun γ5 H locs eγ5 hG hS hq => ?_)
  specialize h γ5 eγ5
  exact g_vret (post := Q) (P' := fun u H => rg G LG aG u H) (u := γ5) C hr hK hS h hG dX2_start_39
end
section
theorem dX2_flipOne_0 : decode cX2_flipOne 0 = .ok (.aload_n 0, 1) := by decide +kernel
theorem dX2_flipOne_1 : decode cX2_flipOne 1 = .ok (.getfield 18, 3) := by decide +kernel
theorem dX2_flipOne_4 : decode cX2_flipOne 4 = .ok (.iload_n 1, 1) := by decide +kernel
theorem dX2_flipOne_5 : decode cX2_flipOne 5 = .ok (.aload_n 0, 1) := by decide +kernel
theorem dX2_flipOne_6 : decode cX2_flipOne 6 = .ok (.getfield 9, 3) := by decide +kernel
theorem dX2_flipOne_9 : decode cX2_flipOne 9 = .ok (.iload_n 1, 1) := by decide +kernel
theorem dX2_flipOne_10 : decode cX2_flipOne 10 = .ok (.iaload, 1) := by decide +kernel
theorem dX2_flipOne_11 : decode cX2_flipOne 11 = .ok (.aload_n 0, 1) := by decide +kernel
theorem dX2_flipOne_12 : decode cX2_flipOne 12 = .ok (.getfield 18, 3) := by decide +kernel
theorem dX2_flipOne_15 : decode cX2_flipOne 15 = .ok (.iload_n 1, 1) := by decide +kernel
theorem dX2_flipOne_16 : decode cX2_flipOne 16 = .ok (.iaload, 1) := by decide +kernel
theorem dX2_flipOne_17 : decode cX2_flipOne 17 = .ok (.isub, 1) := by decide +kernel
theorem dX2_flipOne_18 : decode cX2_flipOne 18 = .ok (.iastore, 1) := by decide +kernel
theorem dX2_flipOne_19 : decode cX2_flipOne 19 = .ok (.aload_n 0, 1) := by decide +kernel
theorem dX2_flipOne_20 : decode cX2_flipOne 20 = .ok (.getfield 30, 3) := by decide +kernel
theorem dX2_flipOne_23 : decode cX2_flipOne 23 = .ok (.iload_n 1, 1) := by decide +kernel
theorem dX2_flipOne_24 : decode cX2_flipOne 24 = .ok (.dup2, 1) := by decide +kernel
theorem dX2_flipOne_25 : decode cX2_flipOne 25 = .ok (.iaload, 1) := by decide +kernel
theorem dX2_flipOne_26 : decode cX2_flipOne 26 = .ok (.iconst 1, 1) := by decide +kernel
theorem dX2_flipOne_27 : decode cX2_flipOne 27 = .ok (.iadd, 1) := by decide +kernel
theorem dX2_flipOne_28 : decode cX2_flipOne 28 = .ok (.iastore, 1) := by decide +kernel
theorem dX2_flipOne_29 : decode cX2_flipOne 29 = .ok (.return_, 1) := by decide +kernel
def vc_X2_flipOne (Q : Mem → Prop) (γ : Mem) (x1 : Int32) : Prop :=
  vp_in x1 12 ∧ (((∀ γ2 : Mem, γ2 = up γ 7 x1.toNatClampNeg ((γ 5 x1.toNatClampNeg) - (γ 7 x1.toNatClampNeg)) → (((∀ γ3 : Mem, γ3 = up γ2 11 x1.toNatClampNeg ((γ2 11 x1.toNatClampNeg) + 1) → (Q γ3)))))))
set_option maxHeartbeats 8000000 in
set_option maxRecDepth 100000 in
theorem m_X2_flipOne (l : Launch) (G : GG) (aG : Nat) (γ : Mem) (x1 : Int32) (Q : Mem → Prop) (h : vc_X2_flipOne Q γ x1) : CtV l yX2_flipOne cX2_flipOne 2 { frames := 0, cells := 0, slots := 0, locals := 0 } [.ref (aG + 4), .int x1] G (fun H => rg G LG aG γ H) (Q) (fun u H => rg G LG aG u H) (RA aG 22) := by
  unfold CtV
  refine met_start (y := yX2_flipOne) (maxL := 2) (av := [.ref (aG + 4), .int x1]) (G := G) (P := fun H => rg G LG aG γ H) (by decide) rfl (Nat.le_of_ble_eq_true rfl) (fun p e s m below meth c ls C hr hP hK hl => ?_)
  obtain ⟨hx, hb, hml, hown, hts, hlocks⟩ := id C
  have hG : rg G LG aG γ s.heap := hP
  have hS : va_S (RA aG 22) s.heap s.heap [] := va_S.rf
  have hl : lv_has ls 2 [(0, .ref (aG + 4)), (1, .int x1)] := hl
  unfold vc_X2_flipOne at h
  refine lv_aload_n hx hb dX2_flipOne_0 rfl (lv_at hl 0 rfl) ?_
  refine g_getR (a := aG) (k := 4) (o := 7) C hK hG fl_X2_18 rfl rfl dX2_flipOne_1 ?_
  refine lv_iload_n hx hb dX2_flipOne_4 rfl (lv_at hl 1 rfl) ?_
  refine lv_aload_n hx hb dX2_flipOne_5 rfl (lv_at hl 0 rfl) ?_
  refine g_getR (a := aG) (k := 4) (o := 5) C hK hG fl_X2_9 rfl rfl dX2_flipOne_6 ?_
  refine lv_iload_n hx hb dX2_flipOne_9 rfl (lv_at hl 1 rfl) ?_
  obtain ⟨b1, h⟩ := h
  refine g_ald (a := aG) (k := 5) (n := 12) C hK hG rfl b1 dX2_flipOne_10 ?_
  refine lv_aload_n hx hb dX2_flipOne_11 rfl (lv_at hl 0 rfl) ?_
  refine g_getR (a := aG) (k := 4) (o := 7) C hK hG fl_X2_18 rfl rfl dX2_flipOne_12 ?_
  refine lv_iload_n hx hb dX2_flipOne_15 rfl (lv_at hl 1 rfl) ?_
  refine g_ald (a := aG) (k := 7) (n := 12) C hK hG rfl b1 dX2_flipOne_16 ?_
  refine lv_isub hx hb dX2_flipOne_17 ?_
  refine g_ast (a := aG) (k := 7) (n := 12) C hK hG hS rfl b1 (RA_in (by decide)) dX2_flipOne_18 (fun γ2 H locs eγ2 hG hS hq => ?_)
  specialize h γ2 eγ2
  refine lv_aload_n hx hb dX2_flipOne_19 rfl (lv_at hl 0 rfl) ?_
  refine g_getR (a := aG) (k := 4) (o := 11) C hK hG fl_X2_30 rfl rfl dX2_flipOne_20 ?_
  refine lv_iload_n hx hb dX2_flipOne_23 rfl (lv_at hl 1 rfl) ?_
  refine lv_dup2_11 hx hb dX2_flipOne_24 rfl rfl ?_
  refine g_ald (a := aG) (k := 11) (n := 12) C hK hG rfl b1 dX2_flipOne_25 ?_
  refine lv_iconst (v := 1) hx hb dX2_flipOne_26 (by decide) ?_
  refine lv_iadd hx hb dX2_flipOne_27 ?_
  refine g_ast (a := aG) (k := 11) (n := 12) C hK hG hS rfl b1 (RA_in (by decide)) dX2_flipOne_28 (fun γ3 H locs eγ3 hG hS hq => ?_)
  specialize h γ3 eγ3
  exact g_vret (post := Q) (P' := fun u H => rg G LG aG u H) (u := γ3) C hr hK hS h hG dX2_flipOne_29
theorem dX2_numberOn_0 : decode cX2_numberOn 0 = .ok (.iconst 0, 1) := by decide +kernel
theorem dX2_numberOn_1 : decode cX2_numberOn 1 = .ok (.istore_n 2, 1) := by decide +kernel
theorem dX2_numberOn_2 : decode cX2_numberOn 2 = .ok (.iconst 0, 1) := by decide +kernel
theorem dX2_numberOn_3 : decode cX2_numberOn 3 = .ok (.istore_n 3, 1) := by decide +kernel
theorem dX2_numberOn_4 : decode cX2_numberOn 4 = .ok (.iload_n 3, 1) := by decide +kernel
theorem dX2_numberOn_5 : decode cX2_numberOn 5 = .ok (.bipush 12, 2) := by decide +kernel
theorem dX2_numberOn_7 : decode cX2_numberOn 7 = .ok (.if_icmp .ge 22, 3) := by decide +kernel
theorem dX2_numberOn_10 : decode cX2_numberOn 10 = .ok (.aload_n 0, 1) := by decide +kernel
theorem dX2_numberOn_11 : decode cX2_numberOn 11 = .ok (.getfield 15, 3) := by decide +kernel
theorem dX2_numberOn_14 : decode cX2_numberOn 14 = .ok (.iload_n 3, 1) := by decide +kernel
theorem dX2_numberOn_15 : decode cX2_numberOn 15 = .ok (.iaload, 1) := by decide +kernel
theorem dX2_numberOn_16 : decode cX2_numberOn 16 = .ok (.iload_n 1, 1) := by decide +kernel
theorem dX2_numberOn_17 : decode cX2_numberOn 17 = .ok (.if_icmp .ne 6, 3) := by decide +kernel
theorem dX2_numberOn_20 : decode cX2_numberOn 20 = .ok (.iinc 2 1, 3) := by decide +kernel
theorem dX2_numberOn_23 : decode cX2_numberOn 23 = .ok (.iinc 3 1, 3) := by decide +kernel
theorem dX2_numberOn_26 : decode cX2_numberOn 26 = .ok (.goto (-22), 3) := by decide +kernel
theorem dX2_numberOn_29 : decode cX2_numberOn 29 = .ok (.iload_n 2, 1) := by decide +kernel
theorem dX2_numberOn_30 : decode cX2_numberOn 30 = .ok (.ireturn, 1) := by decide +kernel
def vb_X2_numberOn_4 (Q : Int32 → Prop) (γ : Mem) (rec : Nat → Int32 → Int32 → Int32 → Prop) (w1 : Int32) (w2 : Int32) (w3 : Int32) : Prop :=
  ((12 ≤ w3) → (Q w2 )) ∧ ((¬ 12 ≤ w3) → (vp_in w3 12 ∧ (((¬ (γ 6 w3.toNatClampNeg) = w1) → (∀ v4 : Int32, v4 = w3 + 1 → (rec 0 w1 w2 v4))) ∧ (((γ 6 w3.toNatClampNeg) = w1) → (∀ v5 : Int32, v5 = w2 + 1 → (∀ v6 : Int32, v6 = w3 + 1 → (rec 0 w1 v5 v6)))))))
def vl_X2_numberOn (Q : Int32 → Prop) (γ : Mem) : Nat → Nat → Int32 → Int32 → Int32 → Prop
  | 0, _, _, _, _ => False
  | n + 1, 0, w1, w2, w3 => vb_X2_numberOn_4 Q γ (vl_X2_numberOn Q γ n) w1 w2 w3
  | _ + 1, _, _, _, _ => False
def vc_X2_numberOn (Q : Int32 → Prop) (γ : Mem) (x1 : Int32) : Prop :=
  ∃ n : Nat, vl_X2_numberOn Q γ n 0 x1 0 0
set_option maxHeartbeats 8000000 in
set_option maxRecDepth 100000 in
theorem m_X2_numberOn (l : Launch) (G : GG) (aG : Nat) (γ : Mem) (x1 : Int32) (Q : Int32 → Prop) (h : vc_X2_numberOn Q γ x1) : CtI l yX2_numberOn cX2_numberOn 4 (some .int) { frames := 0, cells := 0, slots := 0, locals := 0 } [.ref (aG + 4), .int x1] G (fun H => rg G LG aG γ H) (fun r (_ : Unit) => Q r) (fun _ _ => True) (fun _ => False) := by
  unfold CtI
  refine met_start (y := yX2_numberOn) (maxL := 4) (av := [.ref (aG + 4), .int x1]) (G := G) (P := fun H => rg G LG aG γ H) (by decide) rfl (Nat.le_of_ble_eq_true rfl) (fun p e s m below meth c ls C hr hP hK hl => ?_)
  obtain ⟨hx, hb, hml, hown, hts, hlocks⟩ := id C
  have hG : rg G LG aG γ s.heap := hP
  have hS : va_S (fun _ => False) s.heap s.heap [] := va_S.rf
  have hl : lv_has ls 4 [(0, .ref (aG + 4)), (1, .int x1)] := hl
  have K : ∀ n : Nat, (∀ (w1 : Int32) (w2 : Int32) (w3 : Int32) (H : Heap) (locs : List Loc) (ls : Array Slot), rg G LG aG γ H → va_S (fun _ => False) s.heap H locs → lv_has ls 4 [(0, .ref (aG + 4)), (1, .int w1), (2, .int w2), (3, .int w3)] → vl_X2_numberOn Q γ n 0 w1 w2 w3 → W p l e { frames := 0, cells := 0, slots := 0, locals := 0 } s m [.ref (aG + 4), .int x1].toArray below meth c H locs 0 0 (MQ below (va_Qi (fun r (_ : Unit) => Q r) (fun u t => (fun _ _ => True) u t.heap ∧ KK G t) (fun _ => False)) [.ref (aG + 4), .int x1].toArray s 0 0 (fun _ => False)) (F0 m 4 ls [])) := by
    intro n
    induction n with
    | zero => exact fun _ _ _ _ _ _ _ _ _ h => h.elim
    | succ n ih =>
      · intro w1 w2 w3 H locs ls hG hS hl h
        replace h : vb_X2_numberOn_4 Q γ (vl_X2_numberOn Q γ n) w1 w2 w3 := h
        unfold vb_X2_numberOn_4 at h
        refine lv_iload_n hx hb dX2_numberOn_4 rfl (lv_at hl 3 rfl) ?_
        refine lv_bipush (v := 12) hx hb dX2_numberOn_5 (by decide) ?_
        refine lv_icmp_ge (tgt := 29) hx hb dX2_numberOn_7 (by decide) (fun c1 => ?_) (fun c1 => ?_)
        · replace h := h.1 c1
          refine lv_iload_n hx hb dX2_numberOn_29 rfl (lv_at hl 2 rfl) ?_
          exact g_iret (post := fun r (_ : Unit) => Q r) (P' := fun _ _ => True) (r := w2) (u := ()) C hr hK hS h trivial dX2_numberOn_30
        · replace h := h.2 c1
          refine lv_aload_n hx hb dX2_numberOn_10 rfl (lv_at hl 0 rfl) ?_
          refine g_getR (a := aG) (k := 4) (o := 6) C hK hG fl_X2_15 rfl rfl dX2_numberOn_11 ?_
          refine lv_iload_n hx hb dX2_numberOn_14 rfl (lv_at hl 3 rfl) ?_
          obtain ⟨b2, h⟩ := h
          refine g_ald (a := aG) (k := 6) (n := 12) C hK hG rfl b2 dX2_numberOn_15 ?_
          refine lv_iload_n hx hb dX2_numberOn_16 rfl (lv_at hl 1 rfl) ?_
          refine lv_icmp_ne (tgt := 23) hx hb dX2_numberOn_17 (by decide) (fun c3 => ?_) (fun c3 => ?_)
          · replace h := h.1 c3
            obtain ⟨v4, ev4⟩ : ∃ y : Int32, y = w3 + 1 := ⟨_, rfl⟩
            specialize h v4 ev4
            refine lv_iinc (v := v4) (lv' := [(3, .int v4), (0, .ref (aG + 4)), (1, .int w1), (2, .int w2)]) hx hb dX2_numberOn_23 hl (k := 3) rfl (by rw [ev4]; rfl) (by decide) rfl (fun ls hl => ?_)
            refine lv_goto (tgt := 4) hx hb dX2_numberOn_26 (by decide) ?_
            exact (ih) w1 w2 v4 _ _ _ hG hS (lv_sub hl [1, 2, 3, 0] rfl) h
          · replace h := h.2 c3
            obtain ⟨v5, ev5⟩ : ∃ y : Int32, y = w2 + 1 := ⟨_, rfl⟩
            specialize h v5 ev5
            refine lv_iinc (v := v5) (lv' := [(2, .int v5), (0, .ref (aG + 4)), (1, .int w1), (3, .int w3)]) hx hb dX2_numberOn_20 hl (k := 2) rfl (by rw [ev5]; rfl) (by decide) rfl (fun ls hl => ?_)
            obtain ⟨v6, ev6⟩ : ∃ y : Int32, y = w3 + 1 := ⟨_, rfl⟩
            specialize h v6 ev6
            refine lv_iinc (v := v6) (lv' := [(3, .int v6), (2, .int v5), (0, .ref (aG + 4)), (1, .int w1)]) hx hb dX2_numberOn_23 hl (k := 3) rfl (by rw [ev6]; rfl) (by decide) rfl (fun ls hl => ?_)
            refine lv_goto (tgt := 4) hx hb dX2_numberOn_26 (by decide) ?_
            exact (ih) w1 v5 v6 _ _ _ hG hS (lv_sub hl [2, 3, 1, 0] rfl) h
  unfold vc_X2_numberOn at h
  obtain ⟨n, h⟩ := h
  refine lv_iconst (v := 0) hx hb dX2_numberOn_0 (by decide) ?_
  refine lv_istore_n (lv' := [(2, .int 0), (0, .ref (aG + 4)), (1, .int x1)]) hx hb dX2_numberOn_1 rfl hl (by decide) rfl (fun ls hl => ?_)
  refine lv_iconst (v := 0) hx hb dX2_numberOn_2 (by decide) ?_
  refine lv_istore_n (lv' := [(3, .int 0), (2, .int 0), (0, .ref (aG + 4)), (1, .int x1)]) hx hb dX2_numberOn_3 rfl hl (by decide) rfl (fun ls hl => ?_)
  exact ((K n)) x1 0 0 _ _ _ hG hS (lv_sub hl [2, 3, 1, 0] rfl) h
theorem dX2_aheadOnTask_0 : decode cX2_aheadOnTask 0 = .ok (.iconst 0, 1) := by decide +kernel
theorem dX2_aheadOnTask_1 : decode cX2_aheadOnTask 1 = .ok (.istore_n 2, 1) := by decide +kernel
theorem dX2_aheadOnTask_2 : decode cX2_aheadOnTask 2 = .ok (.iconst 0, 1) := by decide +kernel
theorem dX2_aheadOnTask_3 : decode cX2_aheadOnTask 3 = .ok (.istore_n 3, 1) := by decide +kernel
theorem dX2_aheadOnTask_4 : decode cX2_aheadOnTask 4 = .ok (.iload_n 3, 1) := by decide +kernel
theorem dX2_aheadOnTask_5 : decode cX2_aheadOnTask 5 = .ok (.bipush 12, 2) := by decide +kernel
theorem dX2_aheadOnTask_7 : decode cX2_aheadOnTask 7 = .ok (.if_icmp .ge 42, 3) := by decide +kernel
theorem dX2_aheadOnTask_10 : decode cX2_aheadOnTask 10 = .ok (.aload_n 0, 1) := by decide +kernel
theorem dX2_aheadOnTask_11 : decode cX2_aheadOnTask 11 = .ok (.getfield 15, 3) := by decide +kernel
theorem dX2_aheadOnTask_14 : decode cX2_aheadOnTask 14 = .ok (.iload_n 3, 1) := by decide +kernel
theorem dX2_aheadOnTask_15 : decode cX2_aheadOnTask 15 = .ok (.iaload, 1) := by decide +kernel
theorem dX2_aheadOnTask_16 : decode cX2_aheadOnTask 16 = .ok (.aload_n 0, 1) := by decide +kernel
theorem dX2_aheadOnTask_17 : decode cX2_aheadOnTask 17 = .ok (.getfield 15, 3) := by decide +kernel
theorem dX2_aheadOnTask_20 : decode cX2_aheadOnTask 20 = .ok (.iload_n 1, 1) := by decide +kernel
theorem dX2_aheadOnTask_21 : decode cX2_aheadOnTask 21 = .ok (.iaload, 1) := by decide +kernel
theorem dX2_aheadOnTask_22 : decode cX2_aheadOnTask 22 = .ok (.if_icmp .ne 21, 3) := by decide +kernel
theorem dX2_aheadOnTask_25 : decode cX2_aheadOnTask 25 = .ok (.aload_n 0, 1) := by decide +kernel
theorem dX2_aheadOnTask_26 : decode cX2_aheadOnTask 26 = .ok (.getfield 21, 3) := by decide +kernel
theorem dX2_aheadOnTask_29 : decode cX2_aheadOnTask 29 = .ok (.iload_n 3, 1) := by decide +kernel
theorem dX2_aheadOnTask_30 : decode cX2_aheadOnTask 30 = .ok (.iaload, 1) := by decide +kernel
theorem dX2_aheadOnTask_31 : decode cX2_aheadOnTask 31 = .ok (.aload_n 0, 1) := by decide +kernel
theorem dX2_aheadOnTask_32 : decode cX2_aheadOnTask 32 = .ok (.getfield 21, 3) := by decide +kernel
theorem dX2_aheadOnTask_35 : decode cX2_aheadOnTask 35 = .ok (.iload_n 1, 1) := by decide +kernel
theorem dX2_aheadOnTask_36 : decode cX2_aheadOnTask 36 = .ok (.iaload, 1) := by decide +kernel
theorem dX2_aheadOnTask_37 : decode cX2_aheadOnTask 37 = .ok (.if_icmp .ge 6, 3) := by decide +kernel
theorem dX2_aheadOnTask_40 : decode cX2_aheadOnTask 40 = .ok (.iinc 2 1, 3) := by decide +kernel
theorem dX2_aheadOnTask_43 : decode cX2_aheadOnTask 43 = .ok (.iinc 3 1, 3) := by decide +kernel
theorem dX2_aheadOnTask_46 : decode cX2_aheadOnTask 46 = .ok (.goto (-42), 3) := by decide +kernel
theorem dX2_aheadOnTask_49 : decode cX2_aheadOnTask 49 = .ok (.iload_n 2, 1) := by decide +kernel
theorem dX2_aheadOnTask_50 : decode cX2_aheadOnTask 50 = .ok (.ireturn, 1) := by decide +kernel
def vb_X2_aheadOnTask_4 (Q : Int32 → Prop) (γ : Mem) (rec : Nat → Int32 → Int32 → Int32 → Prop) (w1 : Int32) (w2 : Int32) (w3 : Int32) : Prop :=
  ((12 ≤ w3) → (Q w2 )) ∧ ((¬ 12 ≤ w3) → (vp_in w3 12 ∧ (vp_in w1 12 ∧ (((¬ (γ 6 w3.toNatClampNeg) = (γ 6 w1.toNatClampNeg)) → (∀ v5 : Int32, v5 = w3 + 1 → (rec 0 w1 w2 v5))) ∧ (((γ 6 w3.toNatClampNeg) = (γ 6 w1.toNatClampNeg)) → ((((((γ 8 w1.toNatClampNeg) ≤ (γ 8 w3.toNatClampNeg)) → (∀ v7 : Int32, v7 = w3 + 1 → (rec 0 w1 w2 v7))) ∧ ((¬ (γ 8 w1.toNatClampNeg) ≤ (γ 8 w3.toNatClampNeg)) → (∀ v8 : Int32, v8 = w2 + 1 → (∀ v9 : Int32, v9 = w3 + 1 → (rec 0 w1 v8 v9))))))))))))
def vl_X2_aheadOnTask (Q : Int32 → Prop) (γ : Mem) : Nat → Nat → Int32 → Int32 → Int32 → Prop
  | 0, _, _, _, _ => False
  | n + 1, 0, w1, w2, w3 => vb_X2_aheadOnTask_4 Q γ (vl_X2_aheadOnTask Q γ n) w1 w2 w3
  | _ + 1, _, _, _, _ => False
def vc_X2_aheadOnTask (Q : Int32 → Prop) (γ : Mem) (x1 : Int32) : Prop :=
  ∃ n : Nat, vl_X2_aheadOnTask Q γ n 0 x1 0 0
set_option maxHeartbeats 8000000 in
set_option maxRecDepth 100000 in
theorem m_X2_aheadOnTask (l : Launch) (G : GG) (aG : Nat) (γ : Mem) (x1 : Int32) (Q : Int32 → Prop) (h : vc_X2_aheadOnTask Q γ x1) : CtI l yX2_aheadOnTask cX2_aheadOnTask 4 (some .int) { frames := 0, cells := 0, slots := 0, locals := 0 } [.ref (aG + 4), .int x1] G (fun H => rg G LG aG γ H) (fun r (_ : Unit) => Q r) (fun _ _ => True) (fun _ => False) := by
  unfold CtI
  refine met_start (y := yX2_aheadOnTask) (maxL := 4) (av := [.ref (aG + 4), .int x1]) (G := G) (P := fun H => rg G LG aG γ H) (by decide) rfl (Nat.le_of_ble_eq_true rfl) (fun p e s m below meth c ls C hr hP hK hl => ?_)
  obtain ⟨hx, hb, hml, hown, hts, hlocks⟩ := id C
  have hG : rg G LG aG γ s.heap := hP
  have hS : va_S (fun _ => False) s.heap s.heap [] := va_S.rf
  have hl : lv_has ls 4 [(0, .ref (aG + 4)), (1, .int x1)] := hl
  have K : ∀ n : Nat, (∀ (w1 : Int32) (w2 : Int32) (w3 : Int32) (H : Heap) (locs : List Loc) (ls : Array Slot), rg G LG aG γ H → va_S (fun _ => False) s.heap H locs → lv_has ls 4 [(0, .ref (aG + 4)), (1, .int w1), (2, .int w2), (3, .int w3)] → vl_X2_aheadOnTask Q γ n 0 w1 w2 w3 → W p l e { frames := 0, cells := 0, slots := 0, locals := 0 } s m [.ref (aG + 4), .int x1].toArray below meth c H locs 0 0 (MQ below (va_Qi (fun r (_ : Unit) => Q r) (fun u t => (fun _ _ => True) u t.heap ∧ KK G t) (fun _ => False)) [.ref (aG + 4), .int x1].toArray s 0 0 (fun _ => False)) (F0 m 4 ls [])) := by
    intro n
    induction n with
    | zero => exact fun _ _ _ _ _ _ _ _ _ h => h.elim
    | succ n ih =>
      · intro w1 w2 w3 H locs ls hG hS hl h
        replace h : vb_X2_aheadOnTask_4 Q γ (vl_X2_aheadOnTask Q γ n) w1 w2 w3 := h
        unfold vb_X2_aheadOnTask_4 at h
        refine lv_iload_n hx hb dX2_aheadOnTask_4 rfl (lv_at hl 3 rfl) ?_
        refine lv_bipush (v := 12) hx hb dX2_aheadOnTask_5 (by decide) ?_
        refine lv_icmp_ge (tgt := 49) hx hb dX2_aheadOnTask_7 (by decide) (fun c1 => ?_) (fun c1 => ?_)
        · replace h := h.1 c1
          refine lv_iload_n hx hb dX2_aheadOnTask_49 rfl (lv_at hl 2 rfl) ?_
          exact g_iret (post := fun r (_ : Unit) => Q r) (P' := fun _ _ => True) (r := w2) (u := ()) C hr hK hS h trivial dX2_aheadOnTask_50
        · replace h := h.2 c1
          refine lv_aload_n hx hb dX2_aheadOnTask_10 rfl (lv_at hl 0 rfl) ?_
          refine g_getR (a := aG) (k := 4) (o := 6) C hK hG fl_X2_15 rfl rfl dX2_aheadOnTask_11 ?_
          refine lv_iload_n hx hb dX2_aheadOnTask_14 rfl (lv_at hl 3 rfl) ?_
          obtain ⟨b2, h⟩ := h
          refine g_ald (a := aG) (k := 6) (n := 12) C hK hG rfl b2 dX2_aheadOnTask_15 ?_
          refine lv_aload_n hx hb dX2_aheadOnTask_16 rfl (lv_at hl 0 rfl) ?_
          refine g_getR (a := aG) (k := 4) (o := 6) C hK hG fl_X2_15 rfl rfl dX2_aheadOnTask_17 ?_
          refine lv_iload_n hx hb dX2_aheadOnTask_20 rfl (lv_at hl 1 rfl) ?_
          obtain ⟨b3, h⟩ := h
          refine g_ald (a := aG) (k := 6) (n := 12) C hK hG rfl b3 dX2_aheadOnTask_21 ?_
          refine lv_icmp_ne (tgt := 43) hx hb dX2_aheadOnTask_22 (by decide) (fun c4 => ?_) (fun c4 => ?_)
          · replace h := h.1 c4
            obtain ⟨v5, ev5⟩ : ∃ y : Int32, y = w3 + 1 := ⟨_, rfl⟩
            specialize h v5 ev5
            refine lv_iinc (v := v5) (lv' := [(3, .int v5), (0, .ref (aG + 4)), (1, .int w1), (2, .int w2)]) hx hb dX2_aheadOnTask_43 hl (k := 3) rfl (by rw [ev5]; rfl) (by decide) rfl (fun ls hl => ?_)
            refine lv_goto (tgt := 4) hx hb dX2_aheadOnTask_46 (by decide) ?_
            exact (ih) w1 w2 v5 _ _ _ hG hS (lv_sub hl [1, 2, 3, 0] rfl) h
          · replace h := h.2 c4
            refine lv_aload_n hx hb dX2_aheadOnTask_25 rfl (lv_at hl 0 rfl) ?_
            refine g_getR (a := aG) (k := 4) (o := 8) C hK hG fl_X2_21 rfl rfl dX2_aheadOnTask_26 ?_
            refine lv_iload_n hx hb dX2_aheadOnTask_29 rfl (lv_at hl 3 rfl) ?_
            refine g_ald (a := aG) (k := 8) (n := 12) C hK hG rfl b2 dX2_aheadOnTask_30 ?_
            refine lv_aload_n hx hb dX2_aheadOnTask_31 rfl (lv_at hl 0 rfl) ?_
            refine g_getR (a := aG) (k := 4) (o := 8) C hK hG fl_X2_21 rfl rfl dX2_aheadOnTask_32 ?_
            refine lv_iload_n hx hb dX2_aheadOnTask_35 rfl (lv_at hl 1 rfl) ?_
            refine g_ald (a := aG) (k := 8) (n := 12) C hK hG rfl b3 dX2_aheadOnTask_36 ?_
            refine lv_icmp_ge (tgt := 43) hx hb dX2_aheadOnTask_37 (by decide) (fun c6 => ?_) (fun c6 => ?_)
            · replace h := h.1 c6
              obtain ⟨v7, ev7⟩ : ∃ y : Int32, y = w3 + 1 := ⟨_, rfl⟩
              specialize h v7 ev7
              refine lv_iinc (v := v7) (lv' := [(3, .int v7), (0, .ref (aG + 4)), (1, .int w1), (2, .int w2)]) hx hb dX2_aheadOnTask_43 hl (k := 3) rfl (by rw [ev7]; rfl) (by decide) rfl (fun ls hl => ?_)
              refine lv_goto (tgt := 4) hx hb dX2_aheadOnTask_46 (by decide) ?_
              exact (ih) w1 w2 v7 _ _ _ hG hS (lv_sub hl [1, 2, 3, 0] rfl) h
            · replace h := h.2 c6
              obtain ⟨v8, ev8⟩ : ∃ y : Int32, y = w2 + 1 := ⟨_, rfl⟩
              specialize h v8 ev8
              refine lv_iinc (v := v8) (lv' := [(2, .int v8), (0, .ref (aG + 4)), (1, .int w1), (3, .int w3)]) hx hb dX2_aheadOnTask_40 hl (k := 2) rfl (by rw [ev8]; rfl) (by decide) rfl (fun ls hl => ?_)
              obtain ⟨v9, ev9⟩ : ∃ y : Int32, y = w3 + 1 := ⟨_, rfl⟩
              specialize h v9 ev9
              refine lv_iinc (v := v9) (lv' := [(3, .int v9), (2, .int v8), (0, .ref (aG + 4)), (1, .int w1)]) hx hb dX2_aheadOnTask_43 hl (k := 3) rfl (by rw [ev9]; rfl) (by decide) rfl (fun ls hl => ?_)
              refine lv_goto (tgt := 4) hx hb dX2_aheadOnTask_46 (by decide) ?_
              exact (ih) w1 v8 v9 _ _ _ hG hS (lv_sub hl [2, 3, 1, 0] rfl) h
  unfold vc_X2_aheadOnTask at h
  obtain ⟨n, h⟩ := h
  refine lv_iconst (v := 0) hx hb dX2_aheadOnTask_0 (by decide) ?_
  refine lv_istore_n (lv' := [(2, .int 0), (0, .ref (aG + 4)), (1, .int x1)]) hx hb dX2_aheadOnTask_1 rfl hl (by decide) rfl (fun ls hl => ?_)
  refine lv_iconst (v := 0) hx hb dX2_aheadOnTask_2 (by decide) ?_
  refine lv_istore_n (lv' := [(3, .int 0), (2, .int 0), (0, .ref (aG + 4)), (1, .int x1)]) hx hb dX2_aheadOnTask_3 rfl hl (by decide) rfl (fun ls hl => ?_)
  exact ((K n)) x1 0 0 _ _ _ hG hS (lv_sub hl [2, 3, 1, 0] rfl) h
theorem dX2_atPlace_0 : decode cX2_atPlace 0 = .ok (.iconst 0, 1) := by decide +kernel
theorem dX2_atPlace_1 : decode cX2_atPlace 1 = .ok (.istore_n 3, 1) := by decide +kernel
theorem dX2_atPlace_2 : decode cX2_atPlace 2 = .ok (.iload_n 3, 1) := by decide +kernel
theorem dX2_atPlace_3 : decode cX2_atPlace 3 = .ok (.bipush 12, 2) := by decide +kernel
theorem dX2_atPlace_5 : decode cX2_atPlace 5 = .ok (.if_icmp .ge 30, 3) := by decide +kernel
theorem dX2_atPlace_8 : decode cX2_atPlace 8 = .ok (.aload_n 0, 1) := by decide +kernel
theorem dX2_atPlace_9 : decode cX2_atPlace 9 = .ok (.getfield 15, 3) := by decide +kernel
theorem dX2_atPlace_12 : decode cX2_atPlace 12 = .ok (.iload_n 3, 1) := by decide +kernel
theorem dX2_atPlace_13 : decode cX2_atPlace 13 = .ok (.iaload, 1) := by decide +kernel
theorem dX2_atPlace_14 : decode cX2_atPlace 14 = .ok (.iload_n 1, 1) := by decide +kernel
theorem dX2_atPlace_15 : decode cX2_atPlace 15 = .ok (.if_icmp .ne 14, 3) := by decide +kernel
theorem dX2_atPlace_18 : decode cX2_atPlace 18 = .ok (.aload_n 0, 1) := by decide +kernel
theorem dX2_atPlace_19 : decode cX2_atPlace 19 = .ok (.iload_n 3, 1) := by decide +kernel
theorem dX2_atPlace_20 : decode cX2_atPlace 20 = .ok (.invokevirtual 41, 3) := by decide +kernel
theorem dX2_atPlace_23 : decode cX2_atPlace 23 = .ok (.iload_n 2, 1) := by decide +kernel
theorem dX2_atPlace_24 : decode cX2_atPlace 24 = .ok (.if_icmp .ne 5, 3) := by decide +kernel
theorem dX2_atPlace_27 : decode cX2_atPlace 27 = .ok (.iload_n 3, 1) := by decide +kernel
theorem dX2_atPlace_28 : decode cX2_atPlace 28 = .ok (.ireturn, 1) := by decide +kernel
theorem dX2_atPlace_29 : decode cX2_atPlace 29 = .ok (.iinc 3 1, 3) := by decide +kernel
theorem dX2_atPlace_32 : decode cX2_atPlace 32 = .ok (.goto (-30), 3) := by decide +kernel
theorem dX2_atPlace_35 : decode cX2_atPlace 35 = .ok (.iconst (-1), 1) := by decide +kernel
theorem dX2_atPlace_36 : decode cX2_atPlace 36 = .ok (.ireturn, 1) := by decide +kernel
def vb_X2_atPlace_2 (Q : Int32 → Prop) (γ : Mem) (rec : Nat → Int32 → Int32 → Int32 → Prop) (w1 : Int32) (w2 : Int32) (w3 : Int32) : Prop :=
  ((12 ≤ w3) → (Q (-1) )) ∧ ((¬ 12 ≤ w3) → (vp_in w3 12 ∧ (((¬ (γ 6 w3.toNatClampNeg) = w1) → (∀ v4 : Int32, v4 = w3 + 1 → (rec 0 w1 w2 v4))) ∧ (((γ 6 w3.toNatClampNeg) = w1) → (vc_X2_aheadOnTask (fun r5 => ((¬ r5 = w2) → (∀ v7 : Int32, v7 = w3 + 1 → (rec 0 w1 w2 v7))) ∧ ((r5 = w2) → (Q w3 ))) γ w3)))))
def vl_X2_atPlace (Q : Int32 → Prop) (γ : Mem) : Nat → Nat → Int32 → Int32 → Int32 → Prop
  | 0, _, _, _, _ => False
  | n + 1, 0, w1, w2, w3 => vb_X2_atPlace_2 Q γ (vl_X2_atPlace Q γ n) w1 w2 w3
  | _ + 1, _, _, _, _ => False
def vc_X2_atPlace (Q : Int32 → Prop) (γ : Mem) (x1 : Int32) (x2 : Int32) : Prop :=
  ∃ n : Nat, vl_X2_atPlace Q γ n 0 x1 x2 0
set_option maxHeartbeats 8000000 in
set_option maxRecDepth 100000 in
theorem m_X2_atPlace (l : Launch) (G : GG) (aG : Nat) (γ : Mem) (x1 : Int32) (x2 : Int32) (Q : Int32 → Prop) (h : vc_X2_atPlace Q γ x1 x2) : CtI l yX2_atPlace cX2_atPlace 4 (some .int) { frames := 1, cells := 0, slots := 0, locals := 23 } [.ref (aG + 4), .int x1, .int x2] G (fun H => rg G LG aG γ H) (fun r (_ : Unit) => Q r) (fun _ _ => True) (fun _ => False) := by
  unfold CtI
  refine met_start (y := yX2_atPlace) (maxL := 4) (av := [.ref (aG + 4), .int x1, .int x2]) (G := G) (P := fun H => rg G LG aG γ H) (by decide) rfl (Nat.le_of_ble_eq_true rfl) (fun p e s m below meth c ls C hr hP hK hl => ?_)
  obtain ⟨hx, hb, hml, hown, hts, hlocks⟩ := id C
  have hG : rg G LG aG γ s.heap := hP
  have hS : va_S (fun _ => False) s.heap s.heap [] := va_S.rf
  have hl : lv_has ls 4 [(0, .ref (aG + 4)), (1, .int x1), (2, .int x2)] := hl
  have K : ∀ n : Nat, (∀ (w1 : Int32) (w2 : Int32) (w3 : Int32) (H : Heap) (locs : List Loc) (ls : Array Slot), rg G LG aG γ H → va_S (fun _ => False) s.heap H locs → lv_has ls 4 [(0, .ref (aG + 4)), (1, .int w1), (2, .int w2), (3, .int w3)] → vl_X2_atPlace Q γ n 0 w1 w2 w3 → W p l e { frames := 1, cells := 0, slots := 0, locals := 23 } s m [.ref (aG + 4), .int x1, .int x2].toArray below meth c H locs 0 0 (MQ below (va_Qi (fun r (_ : Unit) => Q r) (fun u t => (fun _ _ => True) u t.heap ∧ KK G t) (fun _ => False)) [.ref (aG + 4), .int x1, .int x2].toArray s 0 0 (fun _ => False)) (F0 m 2 ls [])) := by
    intro n
    induction n with
    | zero => exact fun _ _ _ _ _ _ _ _ _ h => h.elim
    | succ n ih =>
      · intro w1 w2 w3 H locs ls hG hS hl h
        replace h : vb_X2_atPlace_2 Q γ (vl_X2_atPlace Q γ n) w1 w2 w3 := h
        unfold vb_X2_atPlace_2 at h
        refine lv_iload_n hx hb dX2_atPlace_2 rfl (lv_at hl 3 rfl) ?_
        refine lv_bipush (v := 12) hx hb dX2_atPlace_3 (by decide) ?_
        refine lv_icmp_ge (tgt := 35) hx hb dX2_atPlace_5 (by decide) (fun c1 => ?_) (fun c1 => ?_)
        · replace h := h.1 c1
          refine lv_iconst (v := (-1)) hx hb dX2_atPlace_35 (by decide) ?_
          exact g_iret (post := fun r (_ : Unit) => Q r) (P' := fun _ _ => True) (r := (-1)) (u := ()) C hr hK hS h trivial dX2_atPlace_36
        · replace h := h.2 c1
          refine lv_aload_n hx hb dX2_atPlace_8 rfl (lv_at hl 0 rfl) ?_
          refine g_getR (a := aG) (k := 4) (o := 6) C hK hG fl_X2_15 rfl rfl dX2_atPlace_9 ?_
          refine lv_iload_n hx hb dX2_atPlace_12 rfl (lv_at hl 3 rfl) ?_
          obtain ⟨b2, h⟩ := h
          refine g_ald (a := aG) (k := 6) (n := 12) C hK hG rfl b2 dX2_atPlace_13 ?_
          refine lv_iload_n hx hb dX2_atPlace_14 rfl (lv_at hl 1 rfl) ?_
          refine lv_icmp_ne (tgt := 29) hx hb dX2_atPlace_15 (by decide) (fun c3 => ?_) (fun c3 => ?_)
          · replace h := h.1 c3
            obtain ⟨v4, ev4⟩ : ∃ y : Int32, y = w3 + 1 := ⟨_, rfl⟩
            specialize h v4 ev4
            refine lv_iinc (v := v4) (lv' := [(3, .int v4), (0, .ref (aG + 4)), (1, .int w1), (2, .int w2)]) hx hb dX2_atPlace_29 hl (k := 3) rfl (by rw [ev4]; rfl) (by decide) rfl (fun ls hl => ?_)
            refine lv_goto (tgt := 2) hx hb dX2_atPlace_32 (by decide) ?_
            exact (ih) w1 w2 v4 _ _ _ hG hS (lv_sub hl [1, 2, 3, 0] rfl) h
          · replace h := h.2 c3
            refine lv_aload_n hx hb dX2_atPlace_18 rfl (lv_at hl 0 rfl) ?_
            refine lv_iload_n hx hb dX2_atPlace_19 rfl (lv_at hl 3 rfl) ?_
            refine g_vI C hK hl.1 (m_X2_aheadOnTask l G aG γ w3 _ h) mw_X2_aheadOnTask mi_X2_aheadOnTask ml_X2_41 rfl ⟨rfl, rfl, Nat.le_of_ble_eq_true rfl, Nat.le_of_ble_eq_true rfl⟩ ⟨Nat.zero_le _, Nat.zero_le _⟩ (g_recv (a := aG) (k := 4) hK hG rfl rfl) hG hS (fun _ h => h.elim) rfl (Nat.le_of_ble_eq_true rfl) dX2_atPlace_20 (fun r5 u H locs h hu _ hq hS => ?_)
            have hG := hG.past hq (fun _ _ h => h)
            refine lv_iload_n hx hb dX2_atPlace_23 rfl (lv_at hl 2 rfl) ?_
            refine lv_icmp_ne (tgt := 29) hx hb dX2_atPlace_24 (by decide) (fun c6 => ?_) (fun c6 => ?_)
            · replace h := h.1 c6
              obtain ⟨v7, ev7⟩ : ∃ y : Int32, y = w3 + 1 := ⟨_, rfl⟩
              specialize h v7 ev7
              refine lv_iinc (v := v7) (lv' := [(3, .int v7), (0, .ref (aG + 4)), (1, .int w1), (2, .int w2)]) hx hb dX2_atPlace_29 hl (k := 3) rfl (by rw [ev7]; rfl) (by decide) rfl (fun ls hl => ?_)
              refine lv_goto (tgt := 2) hx hb dX2_atPlace_32 (by decide) ?_
              exact (ih) w1 w2 v7 _ _ _ hG hS (lv_sub hl [1, 2, 3, 0] rfl) h
            · replace h := h.2 c6
              refine lv_iload_n hx hb dX2_atPlace_27 rfl (lv_at hl 3 rfl) ?_
              exact g_iret (post := fun r (_ : Unit) => Q r) (P' := fun _ _ => True) (r := w3) (u := ()) C hr hK hS h trivial dX2_atPlace_28
  unfold vc_X2_atPlace at h
  obtain ⟨n, h⟩ := h
  refine lv_iconst (v := 0) hx hb dX2_atPlace_0 (by decide) ?_
  refine lv_istore_n (lv' := [(3, .int 0), (0, .ref (aG + 4)), (1, .int x1), (2, .int x2)]) hx hb dX2_atPlace_1 rfl hl (by decide) rfl (fun ls hl => ?_)
  exact ((K n)) x1 x2 0 _ _ _ hG hS (lv_sub hl [1, 2, 3, 0] rfl) h
theorem dX2_nextOut_0 : decode cX2_nextOut 0 = .ok (.iconst (-1), 1) := by decide +kernel
theorem dX2_nextOut_1 : decode cX2_nextOut 1 = .ok (.istore_n 1, 1) := by decide +kernel
theorem dX2_nextOut_2 : decode cX2_nextOut 2 = .ok (.iconst 0, 1) := by decide +kernel
theorem dX2_nextOut_3 : decode cX2_nextOut 3 = .ok (.istore_n 2, 1) := by decide +kernel
theorem dX2_nextOut_4 : decode cX2_nextOut 4 = .ok (.iload_n 2, 1) := by decide +kernel
theorem dX2_nextOut_5 : decode cX2_nextOut 5 = .ok (.bipush 12, 2) := by decide +kernel
theorem dX2_nextOut_7 : decode cX2_nextOut 7 = .ok (.if_icmp .ge 39, 3) := by decide +kernel
theorem dX2_nextOut_10 : decode cX2_nextOut 10 = .ok (.aload_n 0, 1) := by decide +kernel
theorem dX2_nextOut_11 : decode cX2_nextOut 11 = .ok (.iload_n 2, 1) := by decide +kernel
theorem dX2_nextOut_12 : decode cX2_nextOut 12 = .ok (.invokevirtual 45, 3) := by decide +kernel
theorem dX2_nextOut_15 : decode cX2_nextOut 15 = .ok (.ifCond .ne 25, 3) := by decide +kernel
theorem dX2_nextOut_18 : decode cX2_nextOut 18 = .ok (.iload_n 1, 1) := by decide +kernel
theorem dX2_nextOut_19 : decode cX2_nextOut 19 = .ok (.iconst (-1), 1) := by decide +kernel
theorem dX2_nextOut_20 : decode cX2_nextOut 20 = .ok (.if_icmp .eq 18, 3) := by decide +kernel
theorem dX2_nextOut_23 : decode cX2_nextOut 23 = .ok (.aload_n 0, 1) := by decide +kernel
theorem dX2_nextOut_24 : decode cX2_nextOut 24 = .ok (.getfield 18, 3) := by decide +kernel
theorem dX2_nextOut_27 : decode cX2_nextOut 27 = .ok (.iload_n 2, 1) := by decide +kernel
theorem dX2_nextOut_28 : decode cX2_nextOut 28 = .ok (.iaload, 1) := by decide +kernel
theorem dX2_nextOut_29 : decode cX2_nextOut 29 = .ok (.aload_n 0, 1) := by decide +kernel
theorem dX2_nextOut_30 : decode cX2_nextOut 30 = .ok (.getfield 18, 3) := by decide +kernel
theorem dX2_nextOut_33 : decode cX2_nextOut 33 = .ok (.iload_n 1, 1) := by decide +kernel
theorem dX2_nextOut_34 : decode cX2_nextOut 34 = .ok (.iaload, 1) := by decide +kernel
theorem dX2_nextOut_35 : decode cX2_nextOut 35 = .ok (.if_icmp .ge 5, 3) := by decide +kernel
theorem dX2_nextOut_38 : decode cX2_nextOut 38 = .ok (.iload_n 2, 1) := by decide +kernel
theorem dX2_nextOut_39 : decode cX2_nextOut 39 = .ok (.istore_n 1, 1) := by decide +kernel
theorem dX2_nextOut_40 : decode cX2_nextOut 40 = .ok (.iinc 2 1, 3) := by decide +kernel
theorem dX2_nextOut_43 : decode cX2_nextOut 43 = .ok (.goto (-39), 3) := by decide +kernel
theorem dX2_nextOut_46 : decode cX2_nextOut 46 = .ok (.iload_n 1, 1) := by decide +kernel
theorem dX2_nextOut_47 : decode cX2_nextOut 47 = .ok (.ireturn, 1) := by decide +kernel
def vb_X2_nextOut_4 (Q : Int32 → Prop) (γ : Mem) (rec : Nat → Int32 → Int32 → Prop) (w1 : Int32) (w2 : Int32) : Prop :=
  ((12 ≤ w2) → (Q w1 )) ∧ ((¬ 12 ≤ w2) → (vc_X2_isOut (fun r2 => ((¬ r2 = 0) → (∀ v4 : Int32, v4 = w2 + 1 → (rec 0 w1 v4))) ∧ ((r2 = 0) → (((w1 = (-1)) → (∀ v6 : Int32, v6 = w2 + 1 → (rec 0 w2 v6))) ∧ ((¬ w1 = (-1)) → (vp_in w2 12 ∧ (vp_in w1 12 ∧ ((((γ 7 w1.toNatClampNeg) ≤ (γ 7 w2.toNatClampNeg)) → (∀ v10 : Int32, v10 = w2 + 1 → (rec 0 w1 v10))) ∧ ((¬ (γ 7 w1.toNatClampNeg) ≤ (γ 7 w2.toNatClampNeg)) → (∀ v11 : Int32, v11 = w2 + 1 → (rec 0 w2 v11)))))))))) γ w2))
def vl_X2_nextOut (Q : Int32 → Prop) (γ : Mem) : Nat → Nat → Int32 → Int32 → Prop
  | 0, _, _, _ => False
  | n + 1, 0, w1, w2 => vb_X2_nextOut_4 Q γ (vl_X2_nextOut Q γ n) w1 w2
  | _ + 1, _, _, _ => False
def vc_X2_nextOut (Q : Int32 → Prop) (γ : Mem) : Prop :=
  ∃ n : Nat, vl_X2_nextOut Q γ n 0 (-1) 0
set_option maxHeartbeats 8000000 in
set_option maxRecDepth 100000 in
theorem m_X2_nextOut (l : Launch) (G : GG) (aG : Nat) (γ : Mem) (Q : Int32 → Prop) (h : vc_X2_nextOut Q γ) : CtI l yX2_nextOut cX2_nextOut 3 (some .int) { frames := 1, cells := 0, slots := 0, locals := 21 } [.ref (aG + 4)] G (fun H => rg G LG aG γ H) (fun r (_ : Unit) => Q r) (fun _ _ => True) (fun _ => False) := by
  unfold CtI
  refine met_start (y := yX2_nextOut) (maxL := 3) (av := [.ref (aG + 4)]) (G := G) (P := fun H => rg G LG aG γ H) (by decide) rfl (Nat.le_of_ble_eq_true rfl) (fun p e s m below meth c ls C hr hP hK hl => ?_)
  obtain ⟨hx, hb, hml, hown, hts, hlocks⟩ := id C
  have hG : rg G LG aG γ s.heap := hP
  have hS : va_S (fun _ => False) s.heap s.heap [] := va_S.rf
  have hl : lv_has ls 3 [(0, .ref (aG + 4))] := hl
  have K : ∀ n : Nat, (∀ (w1 : Int32) (w2 : Int32) (H : Heap) (locs : List Loc) (ls : Array Slot), rg G LG aG γ H → va_S (fun _ => False) s.heap H locs → lv_has ls 3 [(0, .ref (aG + 4)), (1, .int w1), (2, .int w2)] → vl_X2_nextOut Q γ n 0 w1 w2 → W p l e { frames := 1, cells := 0, slots := 0, locals := 21 } s m [.ref (aG + 4)].toArray below meth c H locs 0 0 (MQ below (va_Qi (fun r (_ : Unit) => Q r) (fun u t => (fun _ _ => True) u t.heap ∧ KK G t) (fun _ => False)) [.ref (aG + 4)].toArray s 0 0 (fun _ => False)) (F0 m 4 ls [])) := by
    intro n
    induction n with
    | zero => exact fun _ _ _ _ _ _ _ _ h => h.elim
    | succ n ih =>
      · intro w1 w2 H locs ls hG hS hl h
        replace h : vb_X2_nextOut_4 Q γ (vl_X2_nextOut Q γ n) w1 w2 := h
        unfold vb_X2_nextOut_4 at h
        refine lv_iload_n hx hb dX2_nextOut_4 rfl (lv_at hl 2 rfl) ?_
        refine lv_bipush (v := 12) hx hb dX2_nextOut_5 (by decide) ?_
        refine lv_icmp_ge (tgt := 46) hx hb dX2_nextOut_7 (by decide) (fun c1 => ?_) (fun c1 => ?_)
        · replace h := h.1 c1
          refine lv_iload_n hx hb dX2_nextOut_46 rfl (lv_at hl 1 rfl) ?_
          exact g_iret (post := fun r (_ : Unit) => Q r) (P' := fun _ _ => True) (r := w1) (u := ()) C hr hK hS h trivial dX2_nextOut_47
        · replace h := h.2 c1
          refine lv_aload_n hx hb dX2_nextOut_10 rfl (lv_at hl 0 rfl) ?_
          refine lv_iload_n hx hb dX2_nextOut_11 rfl (lv_at hl 2 rfl) ?_
          refine g_vI C hK hl.1 (m_X2_isOut l G aG γ w2 _ h) mw_X2_isOut mi_X2_isOut ml_X2_45 rfl ⟨rfl, rfl, Nat.le_of_ble_eq_true rfl, Nat.le_of_ble_eq_true rfl⟩ ⟨Nat.zero_le _, Nat.zero_le _⟩ (g_recv (a := aG) (k := 4) hK hG rfl rfl) hG hS (fun _ h => h.elim) rfl (Nat.le_of_ble_eq_true rfl) dX2_nextOut_12 (fun r2 u H locs h hu _ hq hS => ?_)
          have hG := hG.past hq (fun _ _ h => h)
          refine lv_if_ne (tgt := 40) hx hb dX2_nextOut_15 (by decide) (fun c3 => ?_) (fun c3 => ?_)
          · replace h := h.1 c3
            obtain ⟨v4, ev4⟩ : ∃ y : Int32, y = w2 + 1 := ⟨_, rfl⟩
            specialize h v4 ev4
            refine lv_iinc (v := v4) (lv' := [(2, .int v4), (0, .ref (aG + 4)), (1, .int w1)]) hx hb dX2_nextOut_40 hl (k := 2) rfl (by rw [ev4]; rfl) (by decide) rfl (fun ls hl => ?_)
            refine lv_goto (tgt := 4) hx hb dX2_nextOut_43 (by decide) ?_
            exact (ih) w1 v4 _ _ _ hG hS (lv_sub hl [1, 2, 0] rfl) h
          · replace h := h.2 c3
            refine lv_iload_n hx hb dX2_nextOut_18 rfl (lv_at hl 1 rfl) ?_
            refine lv_iconst (v := (-1)) hx hb dX2_nextOut_19 (by decide) ?_
            refine lv_icmp_eq (tgt := 38) hx hb dX2_nextOut_20 (by decide) (fun c5 => ?_) (fun c5 => ?_)
            · replace h := h.1 c5
              refine lv_iload_n hx hb dX2_nextOut_38 rfl (lv_at hl 2 rfl) ?_
              refine lv_istore_n (lv' := [(1, .int w2), (0, .ref (aG + 4)), (2, .int w2)]) hx hb dX2_nextOut_39 rfl hl (by decide) rfl (fun ls hl => ?_)
              obtain ⟨v6, ev6⟩ : ∃ y : Int32, y = w2 + 1 := ⟨_, rfl⟩
              specialize h v6 ev6
              refine lv_iinc (v := v6) (lv' := [(2, .int v6), (1, .int w2), (0, .ref (aG + 4))]) hx hb dX2_nextOut_40 hl (k := 2) rfl (by rw [ev6]; rfl) (by decide) rfl (fun ls hl => ?_)
              refine lv_goto (tgt := 4) hx hb dX2_nextOut_43 (by decide) ?_
              exact (ih) w2 v6 _ _ _ hG hS (lv_sub hl [2, 1, 0] rfl) h
            · replace h := h.2 c5
              refine lv_aload_n hx hb dX2_nextOut_23 rfl (lv_at hl 0 rfl) ?_
              refine g_getR (a := aG) (k := 4) (o := 7) C hK hG fl_X2_18 rfl rfl dX2_nextOut_24 ?_
              refine lv_iload_n hx hb dX2_nextOut_27 rfl (lv_at hl 2 rfl) ?_
              obtain ⟨b7, h⟩ := h
              refine g_ald (a := aG) (k := 7) (n := 12) C hK hG rfl b7 dX2_nextOut_28 ?_
              refine lv_aload_n hx hb dX2_nextOut_29 rfl (lv_at hl 0 rfl) ?_
              refine g_getR (a := aG) (k := 4) (o := 7) C hK hG fl_X2_18 rfl rfl dX2_nextOut_30 ?_
              refine lv_iload_n hx hb dX2_nextOut_33 rfl (lv_at hl 1 rfl) ?_
              obtain ⟨b8, h⟩ := h
              refine g_ald (a := aG) (k := 7) (n := 12) C hK hG rfl b8 dX2_nextOut_34 ?_
              refine lv_icmp_ge (tgt := 40) hx hb dX2_nextOut_35 (by decide) (fun c9 => ?_) (fun c9 => ?_)
              · replace h := h.1 c9
                obtain ⟨v10, ev10⟩ : ∃ y : Int32, y = w2 + 1 := ⟨_, rfl⟩
                specialize h v10 ev10
                refine lv_iinc (v := v10) (lv' := [(2, .int v10), (0, .ref (aG + 4)), (1, .int w1)]) hx hb dX2_nextOut_40 hl (k := 2) rfl (by rw [ev10]; rfl) (by decide) rfl (fun ls hl => ?_)
                refine lv_goto (tgt := 4) hx hb dX2_nextOut_43 (by decide) ?_
                exact (ih) w1 v10 _ _ _ hG hS (lv_sub hl [1, 2, 0] rfl) h
              · replace h := h.2 c9
                refine lv_iload_n hx hb dX2_nextOut_38 rfl (lv_at hl 2 rfl) ?_
                refine lv_istore_n (lv' := [(1, .int w2), (0, .ref (aG + 4)), (2, .int w2)]) hx hb dX2_nextOut_39 rfl hl (by decide) rfl (fun ls hl => ?_)
                obtain ⟨v11, ev11⟩ : ∃ y : Int32, y = w2 + 1 := ⟨_, rfl⟩
                specialize h v11 ev11
                refine lv_iinc (v := v11) (lv' := [(2, .int v11), (1, .int w2), (0, .ref (aG + 4))]) hx hb dX2_nextOut_40 hl (k := 2) rfl (by rw [ev11]; rfl) (by decide) rfl (fun ls hl => ?_)
                refine lv_goto (tgt := 4) hx hb dX2_nextOut_43 (by decide) ?_
                exact (ih) w2 v11 _ _ _ hG hS (lv_sub hl [2, 1, 0] rfl) h
  unfold vc_X2_nextOut at h
  obtain ⟨n, h⟩ := h
  refine lv_iconst (v := (-1)) hx hb dX2_nextOut_0 (by decide) ?_
  refine lv_istore_n (lv' := [(1, .int (-1)), (0, .ref (aG + 4))]) hx hb dX2_nextOut_1 rfl hl (by decide) rfl (fun ls hl => ?_)
  refine lv_iconst (v := 0) hx hb dX2_nextOut_2 (by decide) ?_
  refine lv_istore_n (lv' := [(2, .int 0), (1, .int (-1)), (0, .ref (aG + 4))]) hx hb dX2_nextOut_3 rfl hl (by decide) rfl (fun ls hl => ?_)
  exact ((K n)) (-1) 0 _ _ _ hG hS (lv_sub hl [2, 1, 0] rfl) h
theorem dX2_untilNextOut_0 : decode cX2_untilNextOut 0 = .ok (.aload_n 0, 1) := by decide +kernel
theorem dX2_untilNextOut_1 : decode cX2_untilNextOut 1 = .ok (.invokevirtual 49, 3) := by decide +kernel
theorem dX2_untilNextOut_4 : decode cX2_untilNextOut 4 = .ok (.istore_n 1, 1) := by decide +kernel
theorem dX2_untilNextOut_5 : decode cX2_untilNextOut 5 = .ok (.iload_n 1, 1) := by decide +kernel
theorem dX2_untilNextOut_6 : decode cX2_untilNextOut 6 = .ok (.iconst (-1), 1) := by decide +kernel
theorem dX2_untilNextOut_7 : decode cX2_untilNextOut 7 = .ok (.if_icmp .ne 8, 3) := by decide +kernel
theorem dX2_untilNextOut_10 : decode cX2_untilNextOut 10 = .ok (.ldc 53, 2) := by decide +kernel
theorem dX2_untilNextOut_12 : decode cX2_untilNextOut 12 = .ok (.goto 9, 3) := by decide +kernel
theorem dX2_untilNextOut_15 : decode cX2_untilNextOut 15 = .ok (.aload_n 0, 1) := by decide +kernel
theorem dX2_untilNextOut_16 : decode cX2_untilNextOut 16 = .ok (.getfield 18, 3) := by decide +kernel
theorem dX2_untilNextOut_19 : decode cX2_untilNextOut 19 = .ok (.iload_n 1, 1) := by decide +kernel
theorem dX2_untilNextOut_20 : decode cX2_untilNextOut 20 = .ok (.iaload, 1) := by decide +kernel
theorem dX2_untilNextOut_21 : decode cX2_untilNextOut 21 = .ok (.ireturn, 1) := by decide +kernel
def vc_X2_untilNextOut (Q : Int32 → Prop) (γ : Mem) : Prop :=
  vc_X2_nextOut (fun r1 => ((¬ r1 = (-1)) → (vp_in r1 12 ∧ (Q (γ 7 r1.toNatClampNeg) ))) ∧ ((r1 = (-1)) → (Q 1000000 ))) γ
set_option maxHeartbeats 8000000 in
set_option maxRecDepth 100000 in
theorem m_X2_untilNextOut (l : Launch) (G : GG) (aG : Nat) (γ : Mem) (Q : Int32 → Prop) (h : vc_X2_untilNextOut Q γ) : CtI l yX2_untilNextOut cX2_untilNextOut 2 (some .int) { frames := 2, cells := 0, slots := 0, locals := 43 } [.ref (aG + 4)] G (fun H => rg G LG aG γ H) (fun r (_ : Unit) => Q r) (fun _ _ => True) (fun _ => False) := by
  unfold CtI
  refine met_start (y := yX2_untilNextOut) (maxL := 2) (av := [.ref (aG + 4)]) (G := G) (P := fun H => rg G LG aG γ H) (by decide) rfl (Nat.le_of_ble_eq_true rfl) (fun p e s m below meth c ls C hr hP hK hl => ?_)
  obtain ⟨hx, hb, hml, hown, hts, hlocks⟩ := id C
  have hG : rg G LG aG γ s.heap := hP
  have hS : va_S (fun _ => False) s.heap s.heap [] := va_S.rf
  have hl : lv_has ls 2 [(0, .ref (aG + 4))] := hl
  unfold vc_X2_untilNextOut at h
  refine lv_aload_n hx hb dX2_untilNextOut_0 rfl (lv_at hl 0 rfl) ?_
  refine g_vI C hK hl.1 (m_X2_nextOut l G aG γ _ h) mw_X2_nextOut mi_X2_nextOut ml_X2_49 rfl ⟨rfl, rfl, Nat.le_of_ble_eq_true rfl, Nat.le_of_ble_eq_true rfl⟩ ⟨Nat.zero_le _, Nat.zero_le _⟩ (g_recv (a := aG) (k := 4) hK hG rfl rfl) hG hS (fun _ h => h.elim) rfl (Nat.le_of_ble_eq_true rfl) dX2_untilNextOut_1 (fun r1 u H locs h hu _ hq hS => ?_)
  have hG := hG.past hq (fun _ _ h => h)
  refine lv_istore_n (lv' := [(1, .int r1), (0, .ref (aG + 4))]) hx hb dX2_untilNextOut_4 rfl hl (by decide) rfl (fun ls hl => ?_)
  refine lv_iload_n hx hb dX2_untilNextOut_5 rfl (lv_at hl 0 rfl) ?_
  refine lv_iconst (v := (-1)) hx hb dX2_untilNextOut_6 (by decide) ?_
  refine lv_icmp_ne (tgt := 15) hx hb dX2_untilNextOut_7 (by decide) (fun c2 => ?_) (fun c2 => ?_)
  · replace h := h.1 c2
    refine lv_aload_n hx hb dX2_untilNextOut_15 rfl (lv_at hl 1 rfl) ?_
    refine g_getR (a := aG) (k := 4) (o := 7) C hK hG fl_X2_18 rfl rfl dX2_untilNextOut_16 ?_
    refine lv_iload_n hx hb dX2_untilNextOut_19 rfl (lv_at hl 0 rfl) ?_
    obtain ⟨b3, h⟩ := h
    refine g_ald (a := aG) (k := 7) (n := 12) C hK hG rfl b3 dX2_untilNextOut_20 ?_
    exact g_iret (post := fun r (_ : Unit) => Q r) (P' := fun _ _ => True) (r := (γ 7 r1.toNatClampNeg)) (u := ()) C hr hK hS h trivial dX2_untilNextOut_21
  · replace h := h.2 c2
    refine g_ldc C kc_X2_53 dX2_untilNextOut_10 ?_
    refine lv_goto (tgt := 21) hx hb dX2_untilNextOut_12 (by decide) ?_
    exact g_iret (post := fun r (_ : Unit) => Q r) (P' := fun _ _ => True) (r := 1000000) (u := ()) C hr hK hS h trivial dX2_untilNextOut_21
theorem dX2_outOf_0 : decode cX2_outOf 0 = .ok (.iconst 0, 1) := by decide +kernel
theorem dX2_outOf_1 : decode cX2_outOf 1 = .ok (.istore_n 2, 1) := by decide +kernel
theorem dX2_outOf_2 : decode cX2_outOf 2 = .ok (.iconst 0, 1) := by decide +kernel
theorem dX2_outOf_3 : decode cX2_outOf 3 = .ok (.istore_n 3, 1) := by decide +kernel
theorem dX2_outOf_4 : decode cX2_outOf 4 = .ok (.iload_n 3, 1) := by decide +kernel
theorem dX2_outOf_5 : decode cX2_outOf 5 = .ok (.iconst 3, 1) := by decide +kernel
theorem dX2_outOf_6 : decode cX2_outOf 6 = .ok (.if_icmp .ge 24, 3) := by decide +kernel
theorem dX2_outOf_9 : decode cX2_outOf 9 = .ok (.aload_n 0, 1) := by decide +kernel
theorem dX2_outOf_10 : decode cX2_outOf 10 = .ok (.iload_n 1, 1) := by decide +kernel
theorem dX2_outOf_11 : decode cX2_outOf 11 = .ok (.iload_n 3, 1) := by decide +kernel
theorem dX2_outOf_12 : decode cX2_outOf 12 = .ok (.invokestatic 54, 3) := by decide +kernel
theorem dX2_outOf_15 : decode cX2_outOf 15 = .ok (.invokevirtual 45, 3) := by decide +kernel
theorem dX2_outOf_18 : decode cX2_outOf 18 = .ok (.ifCond .eq 6, 3) := by decide +kernel
theorem dX2_outOf_21 : decode cX2_outOf 21 = .ok (.iinc 2 1, 3) := by decide +kernel
theorem dX2_outOf_24 : decode cX2_outOf 24 = .ok (.iinc 3 1, 3) := by decide +kernel
theorem dX2_outOf_27 : decode cX2_outOf 27 = .ok (.goto (-23), 3) := by decide +kernel
theorem dX2_outOf_30 : decode cX2_outOf 30 = .ok (.iload_n 2, 1) := by decide +kernel
theorem dX2_outOf_31 : decode cX2_outOf 31 = .ok (.ireturn, 1) := by decide +kernel
def vb_X2_outOf_4 (Q : Int32 → Prop) (γ : Mem) (rec : Nat → Int32 → Int32 → Int32 → Prop) (w1 : Int32) (w2 : Int32) (w3 : Int32) : Prop :=
  ((3 ≤ w3) → (Q w2 )) ∧ ((¬ 3 ≤ w3) → (vc_X7_glassOf (fun r2 => vc_X2_isOut (fun r3 => ((r3 = 0) → (∀ v5 : Int32, v5 = w3 + 1 → (rec 0 w1 w2 v5))) ∧ ((¬ r3 = 0) → (∀ v6 : Int32, v6 = w2 + 1 → (∀ v7 : Int32, v7 = w3 + 1 → (rec 0 w1 v6 v7))))) γ r2) w1 w3))
def vl_X2_outOf (Q : Int32 → Prop) (γ : Mem) : Nat → Nat → Int32 → Int32 → Int32 → Prop
  | 0, _, _, _, _ => False
  | n + 1, 0, w1, w2, w3 => vb_X2_outOf_4 Q γ (vl_X2_outOf Q γ n) w1 w2 w3
  | _ + 1, _, _, _, _ => False
def vc_X2_outOf (Q : Int32 → Prop) (γ : Mem) (x1 : Int32) : Prop :=
  ∃ n : Nat, vl_X2_outOf Q γ n 0 x1 0 0
set_option maxHeartbeats 8000000 in
set_option maxRecDepth 100000 in
theorem m_X2_outOf (l : Launch) (G : GG) (aG : Nat) (γ : Mem) (x1 : Int32) (Q : Int32 → Prop) (h : vc_X2_outOf Q γ x1) : CtI l yX2_outOf cX2_outOf 4 (some .int) { frames := 1, cells := 0, slots := 0, locals := 21 } [.ref (aG + 4), .int x1] G (fun H => rg G LG aG γ H) (fun r (_ : Unit) => Q r) (fun _ _ => True) (fun _ => False) := by
  unfold CtI
  refine met_start (y := yX2_outOf) (maxL := 4) (av := [.ref (aG + 4), .int x1]) (G := G) (P := fun H => rg G LG aG γ H) (by decide) rfl (Nat.le_of_ble_eq_true rfl) (fun p e s m below meth c ls C hr hP hK hl => ?_)
  obtain ⟨hx, hb, hml, hown, hts, hlocks⟩ := id C
  have hG : rg G LG aG γ s.heap := hP
  have hS : va_S (fun _ => False) s.heap s.heap [] := va_S.rf
  have hl : lv_has ls 4 [(0, .ref (aG + 4)), (1, .int x1)] := hl
  have K : ∀ n : Nat, (∀ (w1 : Int32) (w2 : Int32) (w3 : Int32) (H : Heap) (locs : List Loc) (ls : Array Slot), rg G LG aG γ H → va_S (fun _ => False) s.heap H locs → lv_has ls 4 [(0, .ref (aG + 4)), (1, .int w1), (2, .int w2), (3, .int w3)] → vl_X2_outOf Q γ n 0 w1 w2 w3 → W p l e { frames := 1, cells := 0, slots := 0, locals := 21 } s m [.ref (aG + 4), .int x1].toArray below meth c H locs 0 0 (MQ below (va_Qi (fun r (_ : Unit) => Q r) (fun u t => (fun _ _ => True) u t.heap ∧ KK G t) (fun _ => False)) [.ref (aG + 4), .int x1].toArray s 0 0 (fun _ => False)) (F0 m 4 ls [])) := by
    intro n
    induction n with
    | zero => exact fun _ _ _ _ _ _ _ _ _ h => h.elim
    | succ n ih =>
      · intro w1 w2 w3 H locs ls hG hS hl h
        replace h : vb_X2_outOf_4 Q γ (vl_X2_outOf Q γ n) w1 w2 w3 := h
        unfold vb_X2_outOf_4 at h
        refine lv_iload_n hx hb dX2_outOf_4 rfl (lv_at hl 3 rfl) ?_
        refine lv_iconst (v := 3) hx hb dX2_outOf_5 (by decide) ?_
        refine lv_icmp_ge (tgt := 30) hx hb dX2_outOf_6 (by decide) (fun c1 => ?_) (fun c1 => ?_)
        · replace h := h.1 c1
          refine lv_iload_n hx hb dX2_outOf_30 rfl (lv_at hl 2 rfl) ?_
          exact g_iret (post := fun r (_ : Unit) => Q r) (P' := fun _ _ => True) (r := w2) (u := ()) C hr hK hS h trivial dX2_outOf_31
        · replace h := h.2 c1
          refine lv_aload_n hx hb dX2_outOf_9 rfl (lv_at hl 0 rfl) ?_
          refine lv_iload_n hx hb dX2_outOf_10 rfl (lv_at hl 1 rfl) ?_
          refine lv_iload_n hx hb dX2_outOf_11 rfl (lv_at hl 3 rfl) ?_
          refine g_nI C hK hl.1 (m_X7_glassOf l G w1 w3 _ h) mw_X7_glassOf ms_X7_glassOf nl_X2_54 rfl ⟨rfl, rfl, Nat.le_of_ble_eq_true rfl, Nat.le_of_ble_eq_true rfl⟩ ⟨Nat.zero_le _, Nat.zero_le _⟩ trivial hS (fun _ h => h.elim) rfl (Nat.le_of_ble_eq_true rfl) dX2_outOf_12 (fun r2 u H locs h hu _ hq hS => ?_)
          have hG := hG.past hq (fun _ _ h => h)
          refine g_vI C hK hl.1 (m_X2_isOut l G aG γ r2 _ h) mw_X2_isOut mi_X2_isOut ml_X2_45 rfl ⟨rfl, rfl, Nat.le_of_ble_eq_true rfl, Nat.le_of_ble_eq_true rfl⟩ ⟨Nat.zero_le _, Nat.zero_le _⟩ (g_recv (a := aG) (k := 4) hK hG rfl rfl) hG hS (fun _ h => h.elim) rfl (Nat.le_of_ble_eq_true rfl) dX2_outOf_15 (fun r3 u H locs h hu _ hq hS => ?_)
          have hG := hG.past hq (fun _ _ h => h)
          refine lv_if_eq (tgt := 24) hx hb dX2_outOf_18 (by decide) (fun c4 => ?_) (fun c4 => ?_)
          · replace h := h.1 c4
            obtain ⟨v5, ev5⟩ : ∃ y : Int32, y = w3 + 1 := ⟨_, rfl⟩
            specialize h v5 ev5
            refine lv_iinc (v := v5) (lv' := [(3, .int v5), (0, .ref (aG + 4)), (1, .int w1), (2, .int w2)]) hx hb dX2_outOf_24 hl (k := 3) rfl (by rw [ev5]; rfl) (by decide) rfl (fun ls hl => ?_)
            refine lv_goto (tgt := 4) hx hb dX2_outOf_27 (by decide) ?_
            exact (ih) w1 w2 v5 _ _ _ hG hS (lv_sub hl [1, 2, 3, 0] rfl) h
          · replace h := h.2 c4
            obtain ⟨v6, ev6⟩ : ∃ y : Int32, y = w2 + 1 := ⟨_, rfl⟩
            specialize h v6 ev6
            refine lv_iinc (v := v6) (lv' := [(2, .int v6), (0, .ref (aG + 4)), (1, .int w1), (3, .int w3)]) hx hb dX2_outOf_21 hl (k := 2) rfl (by rw [ev6]; rfl) (by decide) rfl (fun ls hl => ?_)
            obtain ⟨v7, ev7⟩ : ∃ y : Int32, y = w3 + 1 := ⟨_, rfl⟩
            specialize h v7 ev7
            refine lv_iinc (v := v7) (lv' := [(3, .int v7), (2, .int v6), (0, .ref (aG + 4)), (1, .int w1)]) hx hb dX2_outOf_24 hl (k := 3) rfl (by rw [ev7]; rfl) (by decide) rfl (fun ls hl => ?_)
            refine lv_goto (tgt := 4) hx hb dX2_outOf_27 (by decide) ?_
            exact (ih) w1 v6 v7 _ _ _ hG hS (lv_sub hl [2, 3, 1, 0] rfl) h
  unfold vc_X2_outOf at h
  obtain ⟨n, h⟩ := h
  refine lv_iconst (v := 0) hx hb dX2_outOf_0 (by decide) ?_
  refine lv_istore_n (lv' := [(2, .int 0), (0, .ref (aG + 4)), (1, .int x1)]) hx hb dX2_outOf_1 rfl hl (by decide) rfl (fun ls hl => ?_)
  refine lv_iconst (v := 0) hx hb dX2_outOf_2 (by decide) ?_
  refine lv_istore_n (lv' := [(3, .int 0), (2, .int 0), (0, .ref (aG + 4)), (1, .int x1)]) hx hb dX2_outOf_3 rfl hl (by decide) rfl (fun ls hl => ?_)
  exact ((K n)) x1 0 0 _ _ _ hG hS (lv_sub hl [2, 3, 1, 0] rfl) h
theorem dX2_sumOf_0 : decode cX2_sumOf 0 = .ok (.iconst 0, 1) := by decide +kernel
theorem dX2_sumOf_1 : decode cX2_sumOf 1 = .ok (.istore_n 2, 1) := by decide +kernel
theorem dX2_sumOf_2 : decode cX2_sumOf 2 = .ok (.iconst 0, 1) := by decide +kernel
theorem dX2_sumOf_3 : decode cX2_sumOf 3 = .ok (.istore_n 3, 1) := by decide +kernel
theorem dX2_sumOf_4 : decode cX2_sumOf 4 = .ok (.iload_n 3, 1) := by decide +kernel
theorem dX2_sumOf_5 : decode cX2_sumOf 5 = .ok (.iconst 3, 1) := by decide +kernel
theorem dX2_sumOf_6 : decode cX2_sumOf 6 = .ok (.if_icmp .ge 19, 3) := by decide +kernel
theorem dX2_sumOf_9 : decode cX2_sumOf 9 = .ok (.iload_n 2, 1) := by decide +kernel
theorem dX2_sumOf_10 : decode cX2_sumOf 10 = .ok (.aload_n 0, 1) := by decide +kernel
theorem dX2_sumOf_11 : decode cX2_sumOf 11 = .ok (.iload_n 1, 1) := by decide +kernel
theorem dX2_sumOf_12 : decode cX2_sumOf 12 = .ok (.iload_n 3, 1) := by decide +kernel
theorem dX2_sumOf_13 : decode cX2_sumOf 13 = .ok (.invokestatic 54, 3) := by decide +kernel
theorem dX2_sumOf_16 : decode cX2_sumOf 16 = .ok (.iaload, 1) := by decide +kernel
theorem dX2_sumOf_17 : decode cX2_sumOf 17 = .ok (.iadd, 1) := by decide +kernel
theorem dX2_sumOf_18 : decode cX2_sumOf 18 = .ok (.istore_n 2, 1) := by decide +kernel
theorem dX2_sumOf_19 : decode cX2_sumOf 19 = .ok (.iinc 3 1, 3) := by decide +kernel
theorem dX2_sumOf_22 : decode cX2_sumOf 22 = .ok (.goto (-18), 3) := by decide +kernel
theorem dX2_sumOf_25 : decode cX2_sumOf 25 = .ok (.iload_n 2, 1) := by decide +kernel
theorem dX2_sumOf_26 : decode cX2_sumOf 26 = .ok (.ireturn, 1) := by decide +kernel
def vb_X2_sumOf_4 (Q : Int32 → Prop) (γ : Mem) (kA : Nat) (rec : Nat → Int32 → Int32 → Int32 → Prop) (w1 : Int32) (w2 : Int32) (w3 : Int32) : Prop :=
  ((3 ≤ w3) → (Q w2 )) ∧ ((¬ 3 ≤ w3) → (vc_X7_glassOf (fun r2 => vp_in r2 12 ∧ (∀ v4 : Int32, v4 = (w2 + (γ kA r2.toNatClampNeg)) → (∀ v5 : Int32, v5 = w3 + 1 → (rec 0 w1 v4 v5)))) w1 w3))
def vl_X2_sumOf (Q : Int32 → Prop) (γ : Mem) (kA : Nat) : Nat → Nat → Int32 → Int32 → Int32 → Prop
  | 0, _, _, _, _ => False
  | n + 1, 0, w1, w2, w3 => vb_X2_sumOf_4 Q γ kA (vl_X2_sumOf Q γ kA n) w1 w2 w3
  | _ + 1, _, _, _, _ => False
def vc_X2_sumOf (Q : Int32 → Prop) (γ : Mem) (kA : Nat) (x1 : Int32) : Prop :=
  ∃ n : Nat, vl_X2_sumOf Q γ kA n 0 x1 0 0
set_option maxHeartbeats 8000000 in
set_option maxRecDepth 100000 in
theorem m_X2_sumOf (l : Launch) (G : GG) (aG : Nat) (γ : Mem) (kA : Nat) (hkA : LG[kA]? = some (.inl 12)) (x1 : Int32) (Q : Int32 → Prop) (h : vc_X2_sumOf Q γ kA x1) : CtI l yX2_sumOf cX2_sumOf 4 (some .int) { frames := 1, cells := 0, slots := 0, locals := 21 } [.ref (aG + kA), .int x1] G (fun H => rg G LG aG γ H) (fun r (_ : Unit) => Q r) (fun _ _ => True) (fun _ => False) := by
  have lkA : kA < 22 := (List.getElem?_eq_some_iff.mp hkA).1
  unfold CtI
  refine met_start (y := yX2_sumOf) (maxL := 4) (av := [.ref (aG + kA), .int x1]) (G := G) (P := fun H => rg G LG aG γ H) (by decide) rfl (Nat.le_of_ble_eq_true rfl) (fun p e s m below meth c ls C hr hP hK hl => ?_)
  obtain ⟨hx, hb, hml, hown, hts, hlocks⟩ := id C
  have hG : rg G LG aG γ s.heap := hP
  have hS : va_S (fun _ => False) s.heap s.heap [] := va_S.rf
  have hl : lv_has ls 4 [(0, .ref (aG + kA)), (1, .int x1)] := hl
  have K : ∀ n : Nat, (∀ (w1 : Int32) (w2 : Int32) (w3 : Int32) (H : Heap) (locs : List Loc) (ls : Array Slot), rg G LG aG γ H → va_S (fun _ => False) s.heap H locs → lv_has ls 4 [(0, .ref (aG + kA)), (1, .int w1), (2, .int w2), (3, .int w3)] → vl_X2_sumOf Q γ kA n 0 w1 w2 w3 → W p l e { frames := 1, cells := 0, slots := 0, locals := 21 } s m [.ref (aG + kA), .int x1].toArray below meth c H locs 0 0 (MQ below (va_Qi (fun r (_ : Unit) => Q r) (fun u t => (fun _ _ => True) u t.heap ∧ KK G t) (fun _ => False)) [.ref (aG + kA), .int x1].toArray s 0 0 (fun _ => False)) (F0 m 4 ls [])) := by
    intro n
    induction n with
    | zero => exact fun _ _ _ _ _ _ _ _ _ h => h.elim
    | succ n ih =>
      · intro w1 w2 w3 H locs ls hG hS hl h
        replace h : vb_X2_sumOf_4 Q γ kA (vl_X2_sumOf Q γ kA n) w1 w2 w3 := h
        unfold vb_X2_sumOf_4 at h
        refine lv_iload_n hx hb dX2_sumOf_4 rfl (lv_at hl 3 rfl) ?_
        refine lv_iconst (v := 3) hx hb dX2_sumOf_5 (by decide) ?_
        refine lv_icmp_ge (tgt := 25) hx hb dX2_sumOf_6 (by decide) (fun c1 => ?_) (fun c1 => ?_)
        · replace h := h.1 c1
          refine lv_iload_n hx hb dX2_sumOf_25 rfl (lv_at hl 2 rfl) ?_
          exact g_iret (post := fun r (_ : Unit) => Q r) (P' := fun _ _ => True) (r := w2) (u := ()) C hr hK hS h trivial dX2_sumOf_26
        · replace h := h.2 c1
          refine lv_iload_n hx hb dX2_sumOf_9 rfl (lv_at hl 2 rfl) ?_
          refine lv_aload_n hx hb dX2_sumOf_10 rfl (lv_at hl 0 rfl) ?_
          refine lv_iload_n hx hb dX2_sumOf_11 rfl (lv_at hl 1 rfl) ?_
          refine lv_iload_n hx hb dX2_sumOf_12 rfl (lv_at hl 3 rfl) ?_
          refine g_nI C hK hl.1 (m_X7_glassOf l G w1 w3 _ h) mw_X7_glassOf ms_X7_glassOf nl_X2_54 rfl ⟨rfl, rfl, Nat.le_of_ble_eq_true rfl, Nat.le_of_ble_eq_true rfl⟩ ⟨Nat.zero_le _, Nat.zero_le _⟩ trivial hS (fun _ h => h.elim) rfl (Nat.le_of_ble_eq_true rfl) dX2_sumOf_13 (fun r2 u H locs h hu _ hq hS => ?_)
          have hG := hG.past hq (fun _ _ h => h)
          obtain ⟨b3, h⟩ := h
          refine g_ald (a := aG) (k := kA) (n := 12) C hK hG hkA b3 dX2_sumOf_16 ?_
          refine lv_iadd hx hb dX2_sumOf_17 ?_
          refine lv_topi (fun v4 ev4 => ?_)
          specialize h v4 ev4
          refine lv_istore_n (lv' := [(2, .int v4), (0, .ref (aG + kA)), (1, .int w1), (3, .int w3)]) hx hb dX2_sumOf_18 rfl hl (by decide) rfl (fun ls hl => ?_)
          obtain ⟨v5, ev5⟩ : ∃ y : Int32, y = w3 + 1 := ⟨_, rfl⟩
          specialize h v5 ev5
          refine lv_iinc (v := v5) (lv' := [(3, .int v5), (2, .int v4), (0, .ref (aG + kA)), (1, .int w1)]) hx hb dX2_sumOf_19 hl (k := 3) rfl (by rw [ev5]; rfl) (by decide) rfl (fun ls hl => ?_)
          refine lv_goto (tgt := 4) hx hb dX2_sumOf_22 (by decide) ?_
          exact (ih) w1 v4 v5 _ _ _ hG hS (lv_sub hl [2, 3, 1, 0] rfl) h
  unfold vc_X2_sumOf at h
  obtain ⟨n, h⟩ := h
  refine lv_iconst (v := 0) hx hb dX2_sumOf_0 (by decide) ?_
  refine lv_istore_n (lv' := [(2, .int 0), (0, .ref (aG + kA)), (1, .int x1)]) hx hb dX2_sumOf_1 rfl hl (by decide) rfl (fun ls hl => ?_)
  refine lv_iconst (v := 0) hx hb dX2_sumOf_2 (by decide) ?_
  refine lv_istore_n (lv' := [(3, .int 0), (2, .int 0), (0, .ref (aG + kA)), (1, .int x1)]) hx hb dX2_sumOf_3 rfl hl (by decide) rfl (fun ls hl => ?_)
  exact ((K n)) x1 0 0 _ _ _ hG hS (lv_sub hl [2, 3, 1, 0] rfl) h
theorem dX2_worksOf_0 : decode cX2_worksOf 0 = .ok (.aload_n 0, 1) := by decide +kernel
theorem dX2_worksOf_1 : decode cX2_worksOf 1 = .ok (.getfield 24, 3) := by decide +kernel
theorem dX2_worksOf_4 : decode cX2_worksOf 4 = .ok (.iload_n 1, 1) := by decide +kernel
theorem dX2_worksOf_5 : decode cX2_worksOf 5 = .ok (.invokestatic 58, 3) := by decide +kernel
theorem dX2_worksOf_8 : decode cX2_worksOf 8 = .ok (.ireturn, 1) := by decide +kernel
def vc_X2_worksOf (Q : Int32 → Prop) (γ : Mem) (x1 : Int32) : Prop :=
  vc_X2_sumOf (fun r1 => Q r1 ) γ 9 x1
set_option maxHeartbeats 8000000 in
set_option maxRecDepth 100000 in
theorem m_X2_worksOf (l : Launch) (G : GG) (aG : Nat) (γ : Mem) (x1 : Int32) (Q : Int32 → Prop) (h : vc_X2_worksOf Q γ x1) : CtI l yX2_worksOf cX2_worksOf 2 (some .int) { frames := 2, cells := 0, slots := 0, locals := 44 } [.ref (aG + 4), .int x1] G (fun H => rg G LG aG γ H) (fun r (_ : Unit) => Q r) (fun _ _ => True) (fun _ => False) := by
  unfold CtI
  refine met_start (y := yX2_worksOf) (maxL := 2) (av := [.ref (aG + 4), .int x1]) (G := G) (P := fun H => rg G LG aG γ H) (by decide) rfl (Nat.le_of_ble_eq_true rfl) (fun p e s m below meth c ls C hr hP hK hl => ?_)
  obtain ⟨hx, hb, hml, hown, hts, hlocks⟩ := id C
  have hG : rg G LG aG γ s.heap := hP
  have hS : va_S (fun _ => False) s.heap s.heap [] := va_S.rf
  have hl : lv_has ls 2 [(0, .ref (aG + 4)), (1, .int x1)] := hl
  unfold vc_X2_worksOf at h
  refine lv_aload_n hx hb dX2_worksOf_0 rfl (lv_at hl 0 rfl) ?_
  refine g_getR (a := aG) (k := 4) (o := 9) C hK hG fl_X2_24 rfl rfl dX2_worksOf_1 ?_
  refine lv_iload_n hx hb dX2_worksOf_4 rfl (lv_at hl 1 rfl) ?_
  refine g_sI C hK hl.1 (m_X2_sumOf l G aG γ 9 (by rfl) x1 _ h) mw_X2_sumOf ms_X2_sumOf ml_X2_58 rfl ⟨rfl, rfl, Nat.le_of_ble_eq_true rfl, Nat.le_of_ble_eq_true rfl⟩ ⟨Nat.zero_le _, Nat.zero_le _⟩ hG hS (fun _ h => h.elim) rfl (Nat.le_of_ble_eq_true rfl) dX2_worksOf_5 (fun r1 u H locs h hu _ hq hS => ?_)
  have hG := hG.past hq (fun _ _ h => h)
  exact g_iret (post := fun r (_ : Unit) => Q r) (P' := fun _ _ => True) (r := r1) (u := ()) C hr hK hS h trivial dX2_worksOf_8
theorem dX2_waitingOf_0 : decode cX2_waitingOf 0 = .ok (.aload_n 0, 1) := by decide +kernel
theorem dX2_waitingOf_1 : decode cX2_waitingOf 1 = .ok (.getfield 27, 3) := by decide +kernel
theorem dX2_waitingOf_4 : decode cX2_waitingOf 4 = .ok (.iload_n 1, 1) := by decide +kernel
theorem dX2_waitingOf_5 : decode cX2_waitingOf 5 = .ok (.invokestatic 58, 3) := by decide +kernel
theorem dX2_waitingOf_8 : decode cX2_waitingOf 8 = .ok (.ireturn, 1) := by decide +kernel
def vc_X2_waitingOf (Q : Int32 → Prop) (γ : Mem) (x1 : Int32) : Prop :=
  vc_X2_sumOf (fun r1 => Q r1 ) γ 10 x1
set_option maxHeartbeats 8000000 in
set_option maxRecDepth 100000 in
theorem m_X2_waitingOf (l : Launch) (G : GG) (aG : Nat) (γ : Mem) (x1 : Int32) (Q : Int32 → Prop) (h : vc_X2_waitingOf Q γ x1) : CtI l yX2_waitingOf cX2_waitingOf 2 (some .int) { frames := 2, cells := 0, slots := 0, locals := 44 } [.ref (aG + 4), .int x1] G (fun H => rg G LG aG γ H) (fun r (_ : Unit) => Q r) (fun _ _ => True) (fun _ => False) := by
  unfold CtI
  refine met_start (y := yX2_waitingOf) (maxL := 2) (av := [.ref (aG + 4), .int x1]) (G := G) (P := fun H => rg G LG aG γ H) (by decide) rfl (Nat.le_of_ble_eq_true rfl) (fun p e s m below meth c ls C hr hP hK hl => ?_)
  obtain ⟨hx, hb, hml, hown, hts, hlocks⟩ := id C
  have hG : rg G LG aG γ s.heap := hP
  have hS : va_S (fun _ => False) s.heap s.heap [] := va_S.rf
  have hl : lv_has ls 2 [(0, .ref (aG + 4)), (1, .int x1)] := hl
  unfold vc_X2_waitingOf at h
  refine lv_aload_n hx hb dX2_waitingOf_0 rfl (lv_at hl 0 rfl) ?_
  refine g_getR (a := aG) (k := 4) (o := 10) C hK hG fl_X2_27 rfl rfl dX2_waitingOf_1 ?_
  refine lv_iload_n hx hb dX2_waitingOf_4 rfl (lv_at hl 1 rfl) ?_
  refine g_sI C hK hl.1 (m_X2_sumOf l G aG γ 10 (by rfl) x1 _ h) mw_X2_sumOf ms_X2_sumOf ml_X2_58 rfl ⟨rfl, rfl, Nat.le_of_ble_eq_true rfl, Nat.le_of_ble_eq_true rfl⟩ ⟨Nat.zero_le _, Nat.zero_le _⟩ hG hS (fun _ h => h.elim) rfl (Nat.le_of_ble_eq_true rfl) dX2_waitingOf_5 (fun r1 u H locs h hu _ hq hS => ?_)
  have hG := hG.past hq (fun _ _ h => h)
  exact g_iret (post := fun r (_ : Unit) => Q r) (P' := fun _ _ => True) (r := r1) (u := ()) C hr hK hS h trivial dX2_waitingOf_8
theorem dX2_sumOfAll_0 : decode cX2_sumOfAll 0 = .ok (.iconst 0, 1) := by decide +kernel
theorem dX2_sumOfAll_1 : decode cX2_sumOfAll 1 = .ok (.istore_n 1, 1) := by decide +kernel
theorem dX2_sumOfAll_2 : decode cX2_sumOfAll 2 = .ok (.iconst 0, 1) := by decide +kernel
theorem dX2_sumOfAll_3 : decode cX2_sumOfAll 3 = .ok (.istore_n 2, 1) := by decide +kernel
theorem dX2_sumOfAll_4 : decode cX2_sumOfAll 4 = .ok (.iload_n 2, 1) := by decide +kernel
theorem dX2_sumOfAll_5 : decode cX2_sumOfAll 5 = .ok (.bipush 12, 2) := by decide +kernel
theorem dX2_sumOfAll_7 : decode cX2_sumOfAll 7 = .ok (.if_icmp .ge 15, 3) := by decide +kernel
theorem dX2_sumOfAll_10 : decode cX2_sumOfAll 10 = .ok (.iload_n 1, 1) := by decide +kernel
theorem dX2_sumOfAll_11 : decode cX2_sumOfAll 11 = .ok (.aload_n 0, 1) := by decide +kernel
theorem dX2_sumOfAll_12 : decode cX2_sumOfAll 12 = .ok (.iload_n 2, 1) := by decide +kernel
theorem dX2_sumOfAll_13 : decode cX2_sumOfAll 13 = .ok (.iaload, 1) := by decide +kernel
theorem dX2_sumOfAll_14 : decode cX2_sumOfAll 14 = .ok (.iadd, 1) := by decide +kernel
theorem dX2_sumOfAll_15 : decode cX2_sumOfAll 15 = .ok (.istore_n 1, 1) := by decide +kernel
theorem dX2_sumOfAll_16 : decode cX2_sumOfAll 16 = .ok (.iinc 2 1, 3) := by decide +kernel
theorem dX2_sumOfAll_19 : decode cX2_sumOfAll 19 = .ok (.goto (-15), 3) := by decide +kernel
theorem dX2_sumOfAll_22 : decode cX2_sumOfAll 22 = .ok (.iload_n 1, 1) := by decide +kernel
theorem dX2_sumOfAll_23 : decode cX2_sumOfAll 23 = .ok (.ireturn, 1) := by decide +kernel
def vb_X2_sumOfAll_4 (Q : Int32 → Prop) (γ : Mem) (kA : Nat) (rec : Nat → Int32 → Int32 → Prop) (w1 : Int32) (w2 : Int32) : Prop :=
  ((12 ≤ w2) → (Q w1 )) ∧ ((¬ 12 ≤ w2) → (vp_in w2 12 ∧ (∀ v3 : Int32, v3 = (w1 + (γ kA w2.toNatClampNeg)) → (∀ v4 : Int32, v4 = w2 + 1 → (rec 0 v3 v4)))))
def vl_X2_sumOfAll (Q : Int32 → Prop) (γ : Mem) (kA : Nat) : Nat → Nat → Int32 → Int32 → Prop
  | 0, _, _, _ => False
  | n + 1, 0, w1, w2 => vb_X2_sumOfAll_4 Q γ kA (vl_X2_sumOfAll Q γ kA n) w1 w2
  | _ + 1, _, _, _ => False
def vc_X2_sumOfAll (Q : Int32 → Prop) (γ : Mem) (kA : Nat) : Prop :=
  ∃ n : Nat, vl_X2_sumOfAll Q γ kA n 0 0 0
set_option maxHeartbeats 8000000 in
set_option maxRecDepth 100000 in
theorem m_X2_sumOfAll (l : Launch) (G : GG) (aG : Nat) (γ : Mem) (kA : Nat) (hkA : LG[kA]? = some (.inl 12)) (Q : Int32 → Prop) (h : vc_X2_sumOfAll Q γ kA) : CtI l yX2_sumOfAll cX2_sumOfAll 3 (some .int) { frames := 0, cells := 0, slots := 0, locals := 0 } [.ref (aG + kA)] G (fun H => rg G LG aG γ H) (fun r (_ : Unit) => Q r) (fun _ _ => True) (fun _ => False) := by
  have lkA : kA < 22 := (List.getElem?_eq_some_iff.mp hkA).1
  unfold CtI
  refine met_start (y := yX2_sumOfAll) (maxL := 3) (av := [.ref (aG + kA)]) (G := G) (P := fun H => rg G LG aG γ H) (by decide) rfl (Nat.le_of_ble_eq_true rfl) (fun p e s m below meth c ls C hr hP hK hl => ?_)
  obtain ⟨hx, hb, hml, hown, hts, hlocks⟩ := id C
  have hG : rg G LG aG γ s.heap := hP
  have hS : va_S (fun _ => False) s.heap s.heap [] := va_S.rf
  have hl : lv_has ls 3 [(0, .ref (aG + kA))] := hl
  have K : ∀ n : Nat, (∀ (w1 : Int32) (w2 : Int32) (H : Heap) (locs : List Loc) (ls : Array Slot), rg G LG aG γ H → va_S (fun _ => False) s.heap H locs → lv_has ls 3 [(0, .ref (aG + kA)), (1, .int w1), (2, .int w2)] → vl_X2_sumOfAll Q γ kA n 0 w1 w2 → W p l e { frames := 0, cells := 0, slots := 0, locals := 0 } s m [.ref (aG + kA)].toArray below meth c H locs 0 0 (MQ below (va_Qi (fun r (_ : Unit) => Q r) (fun u t => (fun _ _ => True) u t.heap ∧ KK G t) (fun _ => False)) [.ref (aG + kA)].toArray s 0 0 (fun _ => False)) (F0 m 4 ls [])) := by
    intro n
    induction n with
    | zero => exact fun _ _ _ _ _ _ _ _ h => h.elim
    | succ n ih =>
      · intro w1 w2 H locs ls hG hS hl h
        replace h : vb_X2_sumOfAll_4 Q γ kA (vl_X2_sumOfAll Q γ kA n) w1 w2 := h
        unfold vb_X2_sumOfAll_4 at h
        refine lv_iload_n hx hb dX2_sumOfAll_4 rfl (lv_at hl 2 rfl) ?_
        refine lv_bipush (v := 12) hx hb dX2_sumOfAll_5 (by decide) ?_
        refine lv_icmp_ge (tgt := 22) hx hb dX2_sumOfAll_7 (by decide) (fun c1 => ?_) (fun c1 => ?_)
        · replace h := h.1 c1
          refine lv_iload_n hx hb dX2_sumOfAll_22 rfl (lv_at hl 1 rfl) ?_
          exact g_iret (post := fun r (_ : Unit) => Q r) (P' := fun _ _ => True) (r := w1) (u := ()) C hr hK hS h trivial dX2_sumOfAll_23
        · replace h := h.2 c1
          refine lv_iload_n hx hb dX2_sumOfAll_10 rfl (lv_at hl 1 rfl) ?_
          refine lv_aload_n hx hb dX2_sumOfAll_11 rfl (lv_at hl 0 rfl) ?_
          refine lv_iload_n hx hb dX2_sumOfAll_12 rfl (lv_at hl 2 rfl) ?_
          obtain ⟨b2, h⟩ := h
          refine g_ald (a := aG) (k := kA) (n := 12) C hK hG hkA b2 dX2_sumOfAll_13 ?_
          refine lv_iadd hx hb dX2_sumOfAll_14 ?_
          refine lv_topi (fun v3 ev3 => ?_)
          specialize h v3 ev3
          refine lv_istore_n (lv' := [(1, .int v3), (0, .ref (aG + kA)), (2, .int w2)]) hx hb dX2_sumOfAll_15 rfl hl (by decide) rfl (fun ls hl => ?_)
          obtain ⟨v4, ev4⟩ : ∃ y : Int32, y = w2 + 1 := ⟨_, rfl⟩
          specialize h v4 ev4
          refine lv_iinc (v := v4) (lv' := [(2, .int v4), (1, .int v3), (0, .ref (aG + kA))]) hx hb dX2_sumOfAll_16 hl (k := 2) rfl (by rw [ev4]; rfl) (by decide) rfl (fun ls hl => ?_)
          refine lv_goto (tgt := 4) hx hb dX2_sumOfAll_19 (by decide) ?_
          exact (ih) v3 v4 _ _ _ hG hS (lv_sub hl [2, 1, 0] rfl) h
  unfold vc_X2_sumOfAll at h
  obtain ⟨n, h⟩ := h
  refine lv_iconst (v := 0) hx hb dX2_sumOfAll_0 (by decide) ?_
  refine lv_istore_n (lv' := [(1, .int 0), (0, .ref (aG + kA))]) hx hb dX2_sumOfAll_1 rfl hl (by decide) rfl (fun ls hl => ?_)
  refine lv_iconst (v := 0) hx hb dX2_sumOfAll_2 (by decide) ?_
  refine lv_istore_n (lv' := [(2, .int 0), (1, .int 0), (0, .ref (aG + kA))]) hx hb dX2_sumOfAll_3 rfl hl (by decide) rfl (fun ls hl => ?_)
  exact ((K n)) 0 0 _ _ _ hG hS (lv_sub hl [2, 1, 0] rfl) h
theorem dX2_allWorks_0 : decode cX2_allWorks 0 = .ok (.aload_n 0, 1) := by decide +kernel
theorem dX2_allWorks_1 : decode cX2_allWorks 1 = .ok (.getfield 24, 3) := by decide +kernel
theorem dX2_allWorks_4 : decode cX2_allWorks 4 = .ok (.invokestatic 62, 3) := by decide +kernel
theorem dX2_allWorks_7 : decode cX2_allWorks 7 = .ok (.ireturn, 1) := by decide +kernel
def vc_X2_allWorks (Q : Int32 → Prop) (γ : Mem) : Prop :=
  vc_X2_sumOfAll (fun r1 => Q r1 ) γ 9
set_option maxHeartbeats 8000000 in
set_option maxRecDepth 100000 in
theorem m_X2_allWorks (l : Launch) (G : GG) (aG : Nat) (γ : Mem) (Q : Int32 → Prop) (h : vc_X2_allWorks Q γ) : CtI l yX2_allWorks cX2_allWorks 1 (some .int) { frames := 1, cells := 0, slots := 0, locals := 22 } [.ref (aG + 4)] G (fun H => rg G LG aG γ H) (fun r (_ : Unit) => Q r) (fun _ _ => True) (fun _ => False) := by
  unfold CtI
  refine met_start (y := yX2_allWorks) (maxL := 1) (av := [.ref (aG + 4)]) (G := G) (P := fun H => rg G LG aG γ H) (by decide) rfl (Nat.le_of_ble_eq_true rfl) (fun p e s m below meth c ls C hr hP hK hl => ?_)
  obtain ⟨hx, hb, hml, hown, hts, hlocks⟩ := id C
  have hG : rg G LG aG γ s.heap := hP
  have hS : va_S (fun _ => False) s.heap s.heap [] := va_S.rf
  have hl : lv_has ls 1 [(0, .ref (aG + 4))] := hl
  unfold vc_X2_allWorks at h
  refine lv_aload_n hx hb dX2_allWorks_0 rfl (lv_at hl 0 rfl) ?_
  refine g_getR (a := aG) (k := 4) (o := 9) C hK hG fl_X2_24 rfl rfl dX2_allWorks_1 ?_
  refine g_sI C hK hl.1 (m_X2_sumOfAll l G aG γ 9 (by rfl) _ h) mw_X2_sumOfAll ms_X2_sumOfAll ml_X2_62 rfl ⟨rfl, rfl, Nat.le_of_ble_eq_true rfl, Nat.le_of_ble_eq_true rfl⟩ ⟨Nat.zero_le _, Nat.zero_le _⟩ hG hS (fun _ h => h.elim) rfl (Nat.le_of_ble_eq_true rfl) dX2_allWorks_4 (fun r1 u H locs h hu _ hq hS => ?_)
  have hG := hG.past hq (fun _ _ h => h)
  exact g_iret (post := fun r (_ : Unit) => Q r) (P' := fun _ _ => True) (r := r1) (u := ()) C hr hK hS h trivial dX2_allWorks_7
theorem dX2_allFlips_0 : decode cX2_allFlips 0 = .ok (.aload_n 0, 1) := by decide +kernel
theorem dX2_allFlips_1 : decode cX2_allFlips 1 = .ok (.getfield 30, 3) := by decide +kernel
theorem dX2_allFlips_4 : decode cX2_allFlips 4 = .ok (.invokestatic 62, 3) := by decide +kernel
theorem dX2_allFlips_7 : decode cX2_allFlips 7 = .ok (.ireturn, 1) := by decide +kernel
def vc_X2_allFlips (Q : Int32 → Prop) (γ : Mem) : Prop :=
  vc_X2_sumOfAll (fun r1 => Q r1 ) γ 11
set_option maxHeartbeats 8000000 in
set_option maxRecDepth 100000 in
theorem m_X2_allFlips (l : Launch) (G : GG) (aG : Nat) (γ : Mem) (Q : Int32 → Prop) (h : vc_X2_allFlips Q γ) : CtI l yX2_allFlips cX2_allFlips 1 (some .int) { frames := 1, cells := 0, slots := 0, locals := 22 } [.ref (aG + 4)] G (fun H => rg G LG aG γ H) (fun r (_ : Unit) => Q r) (fun _ _ => True) (fun _ => False) := by
  unfold CtI
  refine met_start (y := yX2_allFlips) (maxL := 1) (av := [.ref (aG + 4)]) (G := G) (P := fun H => rg G LG aG γ H) (by decide) rfl (Nat.le_of_ble_eq_true rfl) (fun p e s m below meth c ls C hr hP hK hl => ?_)
  obtain ⟨hx, hb, hml, hown, hts, hlocks⟩ := id C
  have hG : rg G LG aG γ s.heap := hP
  have hS : va_S (fun _ => False) s.heap s.heap [] := va_S.rf
  have hl : lv_has ls 1 [(0, .ref (aG + 4))] := hl
  unfold vc_X2_allFlips at h
  refine lv_aload_n hx hb dX2_allFlips_0 rfl (lv_at hl 0 rfl) ?_
  refine g_getR (a := aG) (k := 4) (o := 11) C hK hG fl_X2_30 rfl rfl dX2_allFlips_1 ?_
  refine g_sI C hK hl.1 (m_X2_sumOfAll l G aG γ 11 (by rfl) _ h) mw_X2_sumOfAll ms_X2_sumOfAll ml_X2_62 rfl ⟨rfl, rfl, Nat.le_of_ble_eq_true rfl, Nat.le_of_ble_eq_true rfl⟩ ⟨Nat.zero_le _, Nat.zero_le _⟩ hG hS (fun _ h => h.elim) rfl (Nat.le_of_ble_eq_true rfl) dX2_allFlips_4 (fun r1 u H locs h hu _ hq hS => ?_)
  have hG := hG.past hq (fun _ _ h => h)
  exact g_iret (post := fun r (_ : Unit) => Q r) (P' := fun _ _ => True) (r := r1) (u := ()) C hr hK hS h trivial dX2_allFlips_7
theorem dX6_differenceOf_0 : decode cX6_differenceOf 0 = .ok (.aload_n 0, 1) := by decide +kernel
theorem dX6_differenceOf_1 : decode cX6_differenceOf 1 = .ok (.getfield 18, 3) := by decide +kernel
theorem dX6_differenceOf_4 : decode cX6_differenceOf 4 = .ok (.iload_n 1, 1) := by decide +kernel
theorem dX6_differenceOf_5 : decode cX6_differenceOf 5 = .ok (.iaload, 1) := by decide +kernel
theorem dX6_differenceOf_6 : decode cX6_differenceOf 6 = .ok (.invokestatic 35, 3) := by decide +kernel
theorem dX6_differenceOf_9 : decode cX6_differenceOf 9 = .ok (.aload_n 0, 1) := by decide +kernel
theorem dX6_differenceOf_10 : decode cX6_differenceOf 10 = .ok (.getfield 15, 3) := by decide +kernel
theorem dX6_differenceOf_13 : decode cX6_differenceOf 13 = .ok (.iload_n 1, 1) := by decide +kernel
theorem dX6_differenceOf_14 : decode cX6_differenceOf 14 = .ok (.iaload, 1) := by decide +kernel
theorem dX6_differenceOf_15 : decode cX6_differenceOf 15 = .ok (.invokestatic 35, 3) := by decide +kernel
theorem dX6_differenceOf_18 : decode cX6_differenceOf 18 = .ok (.isub, 1) := by decide +kernel
theorem dX6_differenceOf_19 : decode cX6_differenceOf 19 = .ok (.ireturn, 1) := by decide +kernel
def vc_X6_differenceOf (Q : Int32 → Prop) (γ : Mem) (x1 : Int32) : Prop :=
  vp_in x1 8 ∧ (vc_X7_allAmountsIn (fun r2 => (vc_X7_allAmountsIn (fun r3 => Q (r2 - r3) ) (γ 14 x1.toNatClampNeg))) (γ 15 x1.toNatClampNeg))
set_option maxHeartbeats 8000000 in
set_option maxRecDepth 100000 in
theorem m_X6_differenceOf (l : Launch) (G : GG) (aG : Nat) (γ : Mem) (x1 : Int32) (Q : Int32 → Prop) (h : vc_X6_differenceOf Q γ x1) : CtI l yX6_differenceOf cX6_differenceOf 2 (some .int) { frames := 2, cells := 0, slots := 0, locals := 41 } [.ref (aG + 12), .int x1] G (fun H => rg G LG aG γ H) (fun r (_ : Unit) => Q r) (fun _ _ => True) (fun _ => False) := by
  unfold CtI
  refine met_start (y := yX6_differenceOf) (maxL := 2) (av := [.ref (aG + 12), .int x1]) (G := G) (P := fun H => rg G LG aG γ H) (by decide) rfl (Nat.le_of_ble_eq_true rfl) (fun p e s m below meth c ls C hr hP hK hl => ?_)
  obtain ⟨hx, hb, hml, hown, hts, hlocks⟩ := id C
  have hG : rg G LG aG γ s.heap := hP
  have hS : va_S (fun _ => False) s.heap s.heap [] := va_S.rf
  have hl : lv_has ls 2 [(0, .ref (aG + 12)), (1, .int x1)] := hl
  unfold vc_X6_differenceOf at h
  refine lv_aload_n hx hb dX6_differenceOf_0 rfl (lv_at hl 0 rfl) ?_
  refine g_getR (a := aG) (k := 12) (o := 15) C hK hG fl_X6_18 rfl rfl dX6_differenceOf_1 ?_
  refine lv_iload_n hx hb dX6_differenceOf_4 rfl (lv_at hl 1 rfl) ?_
  obtain ⟨b1, h⟩ := h
  refine g_ald (a := aG) (k := 15) (n := 8) C hK hG rfl b1 dX6_differenceOf_5 ?_
  refine g_nI C hK hl.1 (m_X7_allAmountsIn l G (γ 15 x1.toNatClampNeg) _ h) mw_X7_allAmountsIn ms_X7_allAmountsIn nl_X6_35 rfl ⟨rfl, rfl, Nat.le_of_ble_eq_true rfl, Nat.le_of_ble_eq_true rfl⟩ ⟨Nat.zero_le _, Nat.zero_le _⟩ trivial hS (fun _ h => h.elim) rfl (Nat.le_of_ble_eq_true rfl) dX6_differenceOf_6 (fun r2 u H locs h hu _ hq hS => ?_)
  have hG := hG.past hq (fun _ _ h => h)
  refine lv_aload_n hx hb dX6_differenceOf_9 rfl (lv_at hl 0 rfl) ?_
  refine g_getR (a := aG) (k := 12) (o := 14) C hK hG fl_X6_15 rfl rfl dX6_differenceOf_10 ?_
  refine lv_iload_n hx hb dX6_differenceOf_13 rfl (lv_at hl 1 rfl) ?_
  refine g_ald (a := aG) (k := 14) (n := 8) C hK hG rfl b1 dX6_differenceOf_14 ?_
  refine g_nI C hK hl.1 (m_X7_allAmountsIn l G (γ 14 x1.toNatClampNeg) _ h) mw_X7_allAmountsIn ms_X7_allAmountsIn nl_X6_35 rfl ⟨rfl, rfl, Nat.le_of_ble_eq_true rfl, Nat.le_of_ble_eq_true rfl⟩ ⟨Nat.zero_le _, Nat.zero_le _⟩ trivial hS (fun _ h => h.elim) rfl (Nat.le_of_ble_eq_true rfl) dX6_differenceOf_15 (fun r3 u H locs h hu _ hq hS => ?_)
  have hG := hG.past hq (fun _ _ h => h)
  refine lv_isub hx hb dX6_differenceOf_18 ?_
  exact g_iret (post := fun r (_ : Unit) => Q r) (P' := fun _ _ => True) (r := (r2 - r3)) (u := ()) C hr hK hS h trivial dX6_differenceOf_19
theorem dX0_remove_0 : decode cX0_remove 0 = .ok (.iload_n 1, 1) := by decide +kernel
theorem dX0_remove_1 : decode cX0_remove 1 = .ok (.istore_n 2, 1) := by decide +kernel
theorem dX0_remove_2 : decode cX0_remove 2 = .ok (.iload_n 2, 1) := by decide +kernel
theorem dX0_remove_3 : decode cX0_remove 3 = .ok (.aload_n 0, 1) := by decide +kernel
theorem dX0_remove_4 : decode cX0_remove 4 = .ok (.getfield 18, 3) := by decide +kernel
theorem dX0_remove_7 : decode cX0_remove 7 = .ok (.iconst 1, 1) := by decide +kernel
theorem dX0_remove_8 : decode cX0_remove 8 = .ok (.isub, 1) := by decide +kernel
theorem dX0_remove_9 : decode cX0_remove 9 = .ok (.if_icmp .ge 42, 3) := by decide +kernel
theorem dX0_remove_12 : decode cX0_remove 12 = .ok (.iload_n 2, 1) := by decide +kernel
theorem dX0_remove_13 : decode cX0_remove 13 = .ok (.iconst 5, 1) := by decide +kernel
theorem dX0_remove_14 : decode cX0_remove 14 = .ok (.if_icmp .ge 37, 3) := by decide +kernel
theorem dX0_remove_17 : decode cX0_remove 17 = .ok (.aload_n 0, 1) := by decide +kernel
theorem dX0_remove_18 : decode cX0_remove 18 = .ok (.getfield 9, 3) := by decide +kernel
theorem dX0_remove_21 : decode cX0_remove 21 = .ok (.iload_n 2, 1) := by decide +kernel
theorem dX0_remove_22 : decode cX0_remove 22 = .ok (.aload_n 0, 1) := by decide +kernel
theorem dX0_remove_23 : decode cX0_remove 23 = .ok (.getfield 9, 3) := by decide +kernel
theorem dX0_remove_26 : decode cX0_remove 26 = .ok (.iload_n 2, 1) := by decide +kernel
theorem dX0_remove_27 : decode cX0_remove 27 = .ok (.iconst 1, 1) := by decide +kernel
theorem dX0_remove_28 : decode cX0_remove 28 = .ok (.iadd, 1) := by decide +kernel
theorem dX0_remove_29 : decode cX0_remove 29 = .ok (.iaload, 1) := by decide +kernel
theorem dX0_remove_30 : decode cX0_remove 30 = .ok (.iastore, 1) := by decide +kernel
theorem dX0_remove_31 : decode cX0_remove 31 = .ok (.aload_n 0, 1) := by decide +kernel
theorem dX0_remove_32 : decode cX0_remove 32 = .ok (.getfield 15, 3) := by decide +kernel
theorem dX0_remove_35 : decode cX0_remove 35 = .ok (.iload_n 2, 1) := by decide +kernel
theorem dX0_remove_36 : decode cX0_remove 36 = .ok (.aload_n 0, 1) := by decide +kernel
theorem dX0_remove_37 : decode cX0_remove 37 = .ok (.getfield 15, 3) := by decide +kernel
theorem dX0_remove_40 : decode cX0_remove 40 = .ok (.iload_n 2, 1) := by decide +kernel
theorem dX0_remove_41 : decode cX0_remove 41 = .ok (.iconst 1, 1) := by decide +kernel
theorem dX0_remove_42 : decode cX0_remove 42 = .ok (.iadd, 1) := by decide +kernel
theorem dX0_remove_43 : decode cX0_remove 43 = .ok (.iaload, 1) := by decide +kernel
theorem dX0_remove_44 : decode cX0_remove 44 = .ok (.iastore, 1) := by decide +kernel
theorem dX0_remove_45 : decode cX0_remove 45 = .ok (.iinc 2 1, 3) := by decide +kernel
theorem dX0_remove_48 : decode cX0_remove 48 = .ok (.goto (-46), 3) := by decide +kernel
theorem dX0_remove_51 : decode cX0_remove 51 = .ok (.aload_n 0, 1) := by decide +kernel
theorem dX0_remove_52 : decode cX0_remove 52 = .ok (.dup, 1) := by decide +kernel
theorem dX0_remove_53 : decode cX0_remove 53 = .ok (.getfield 18, 3) := by decide +kernel
theorem dX0_remove_56 : decode cX0_remove 56 = .ok (.iconst 1, 1) := by decide +kernel
theorem dX0_remove_57 : decode cX0_remove 57 = .ok (.isub, 1) := by decide +kernel
theorem dX0_remove_58 : decode cX0_remove 58 = .ok (.putfield 18, 3) := by decide +kernel
theorem dX0_remove_61 : decode cX0_remove 61 = .ok (.return_, 1) := by decide +kernel
def vb_X0_remove_2 (Q : Mem → Prop) (rec : Nat → Mem → Int32 → Prop) (γ : Mem) (w2 : Int32) : Prop :=
  ((((γ 18 0) - 1) ≤ w2) → (∀ γ2 : Mem, γ2 = up γ 18 0 ((γ 18 0) - 1) → (Q γ2))) ∧ ((¬ ((γ 18 0) - 1) ≤ w2) → (((5 ≤ w2) → (∀ γ4 : Mem, γ4 = up γ 18 0 ((γ 18 0) - 1) → (Q γ4))) ∧ ((¬ 5 ≤ w2) → (vp_in (w2 + 1) 6 ∧ (vp_in w2 6 ∧ (∀ γ7 : Mem, γ7 = up γ 19 w2.toNatClampNeg (γ 19 (w2 + 1).toNatClampNeg) → (((∀ γ8 : Mem, γ8 = up γ7 20 w2.toNatClampNeg (γ7 20 (w2 + 1).toNatClampNeg) → (∀ v9 : Int32, v9 = w2 + 1 → (rec 0 γ8 v9)))))))))))
def vl_X0_remove (Q : Mem → Prop) : Nat → Nat → Mem → Int32 → Prop
  | 0, _, _, _ => False
  | n + 1, 0, γ, w2 => vb_X0_remove_2 Q (vl_X0_remove Q n) γ w2
  | _ + 1, _, _, _ => False
def vc_X0_remove (Q : Mem → Prop) (γ : Mem) (x1 : Int32) : Prop :=
  ∃ n : Nat, vl_X0_remove Q n 0 γ x1
set_option maxHeartbeats 8000000 in
set_option maxRecDepth 100000 in
theorem m_X0_remove (l : Launch) (G : GG) (aG : Nat) (γ : Mem) (x1 : Int32) (Q : Mem → Prop) (h : vc_X0_remove Q γ x1) : CtV l yX0_remove cX0_remove 3 { frames := 0, cells := 0, slots := 0, locals := 0 } [.ref (aG + 18), .int x1] G (fun H => rg G LG aG γ H) (Q) (fun u H => rg G LG aG u H) (RA aG 22) := by
  unfold CtV
  refine met_start (y := yX0_remove) (maxL := 3) (av := [.ref (aG + 18), .int x1]) (G := G) (P := fun H => rg G LG aG γ H) (by decide) rfl (Nat.le_of_ble_eq_true rfl) (fun p e s m below meth c ls C hr hP hK hl => ?_)
  obtain ⟨hx, hb, hml, hown, hts, hlocks⟩ := id C
  have hG : rg G LG aG γ s.heap := hP
  have hS : va_S (RA aG 22) s.heap s.heap [] := va_S.rf
  have hl : lv_has ls 3 [(0, .ref (aG + 18)), (1, .int x1)] := hl
  have K : ∀ n : Nat, (∀ (γ : Mem) (w2 : Int32) (H : Heap) (locs : List Loc) (ls : Array Slot), rg G LG aG γ H → va_S (RA aG 22) s.heap H locs → lv_has ls 3 [(0, .ref (aG + 18)), (2, .int w2)] → vl_X0_remove Q n 0 γ w2 → W p l e { frames := 0, cells := 0, slots := 0, locals := 0 } s m [.ref (aG + 18), .int x1].toArray below meth c H locs 0 0 (MQ below (va_Qv (Q) (fun u t => (fun u H => rg G LG aG u H) u t.heap ∧ KK G t) (RA aG 22)) [.ref (aG + 18), .int x1].toArray s 0 0 (RA aG 22)) (F0 m 2 ls [])) := by
    intro n
    induction n with
    | zero => exact fun _ _ _ _ _ _ _ _ h => h.elim
    | succ n ih =>
      · intro γ w2 H locs ls hG hS hl h
        replace h : vb_X0_remove_2 Q (vl_X0_remove Q n) γ w2 := h
        unfold vb_X0_remove_2 at h
        refine lv_iload_n hx hb dX0_remove_2 rfl (lv_at hl 1 rfl) ?_
        refine lv_aload_n hx hb dX0_remove_3 rfl (lv_at hl 0 rfl) ?_
        refine g_getI (a := aG) (k := 18) C hK hG fl_X0_18 rfl rfl dX0_remove_4 ?_
        refine lv_iconst (v := 1) hx hb dX0_remove_7 (by decide) ?_
        refine lv_isub hx hb dX0_remove_8 ?_
        refine lv_icmp_ge (tgt := 51) hx hb dX0_remove_9 (by decide) (fun c1 => ?_) (fun c1 => ?_)
        · replace h := h.1 c1
          refine lv_aload_n hx hb dX0_remove_51 rfl (lv_at hl 0 rfl) ?_
          refine lv_dup hx hb dX0_remove_52 rfl ?_
          refine g_getI (a := aG) (k := 18) C hK hG fl_X0_18 rfl rfl dX0_remove_53 ?_
          refine lv_iconst (v := 1) hx hb dX0_remove_56 (by decide) ?_
          refine lv_isub hx hb dX0_remove_57 ?_
          refine g_put (a := aG) (k := 18) C hK hG hS fl_X0_18 fp_X0_0 rfl rfl (by rfl) (by rfl) (RA_in (by decide)) dX0_remove_58 (fun γ2 H locs eγ2 hG hS hq => ?_)
          specialize h γ2 eγ2
          exact g_vret (post := Q) (P' := fun u H => rg G LG aG u H) (u := γ2) C hr hK hS h hG dX0_remove_61
        · replace h := h.2 c1
          refine lv_iload_n hx hb dX0_remove_12 rfl (lv_at hl 1 rfl) ?_
          refine lv_iconst (v := 5) hx hb dX0_remove_13 (by decide) ?_
          refine lv_icmp_ge (tgt := 51) hx hb dX0_remove_14 (by decide) (fun c3 => ?_) (fun c3 => ?_)
          · replace h := h.1 c3
            refine lv_aload_n hx hb dX0_remove_51 rfl (lv_at hl 0 rfl) ?_
            refine lv_dup hx hb dX0_remove_52 rfl ?_
            refine g_getI (a := aG) (k := 18) C hK hG fl_X0_18 rfl rfl dX0_remove_53 ?_
            refine lv_iconst (v := 1) hx hb dX0_remove_56 (by decide) ?_
            refine lv_isub hx hb dX0_remove_57 ?_
            refine g_put (a := aG) (k := 18) C hK hG hS fl_X0_18 fp_X0_0 rfl rfl (by rfl) (by rfl) (RA_in (by decide)) dX0_remove_58 (fun γ4 H locs eγ4 hG hS hq => ?_)
            specialize h γ4 eγ4
            exact g_vret (post := Q) (P' := fun u H => rg G LG aG u H) (u := γ4) C hr hK hS h hG dX0_remove_61
          · replace h := h.2 c3
            refine lv_aload_n hx hb dX0_remove_17 rfl (lv_at hl 0 rfl) ?_
            refine g_getR (a := aG) (k := 18) (o := 19) C hK hG fl_X0_9 rfl rfl dX0_remove_18 ?_
            refine lv_iload_n hx hb dX0_remove_21 rfl (lv_at hl 1 rfl) ?_
            refine lv_aload_n hx hb dX0_remove_22 rfl (lv_at hl 0 rfl) ?_
            refine g_getR (a := aG) (k := 18) (o := 19) C hK hG fl_X0_9 rfl rfl dX0_remove_23 ?_
            refine lv_iload_n hx hb dX0_remove_26 rfl (lv_at hl 1 rfl) ?_
            refine lv_iconst (v := 1) hx hb dX0_remove_27 (by decide) ?_
            refine lv_iadd hx hb dX0_remove_28 ?_
            obtain ⟨b5, h⟩ := h
            refine g_ald (a := aG) (k := 19) (n := 6) C hK hG rfl b5 dX0_remove_29 ?_
            obtain ⟨b6, h⟩ := h
            refine g_ast (a := aG) (k := 19) (n := 6) C hK hG hS rfl b6 (RA_in (by decide)) dX0_remove_30 (fun γ7 H locs eγ7 hG hS hq => ?_)
            specialize h γ7 eγ7
            refine lv_aload_n hx hb dX0_remove_31 rfl (lv_at hl 0 rfl) ?_
            refine g_getR (a := aG) (k := 18) (o := 20) C hK hG fl_X0_15 rfl rfl dX0_remove_32 ?_
            refine lv_iload_n hx hb dX0_remove_35 rfl (lv_at hl 1 rfl) ?_
            refine lv_aload_n hx hb dX0_remove_36 rfl (lv_at hl 0 rfl) ?_
            refine g_getR (a := aG) (k := 18) (o := 20) C hK hG fl_X0_15 rfl rfl dX0_remove_37 ?_
            refine lv_iload_n hx hb dX0_remove_40 rfl (lv_at hl 1 rfl) ?_
            refine lv_iconst (v := 1) hx hb dX0_remove_41 (by decide) ?_
            refine lv_iadd hx hb dX0_remove_42 ?_
            refine g_ald (a := aG) (k := 20) (n := 6) C hK hG rfl b5 dX0_remove_43 ?_
            refine g_ast (a := aG) (k := 20) (n := 6) C hK hG hS rfl b6 (RA_in (by decide)) dX0_remove_44 (fun γ8 H locs eγ8 hG hS hq => ?_)
            specialize h γ8 eγ8
            obtain ⟨v9, ev9⟩ : ∃ y : Int32, y = w2 + 1 := ⟨_, rfl⟩
            specialize h v9 ev9
            refine lv_iinc (v := v9) (lv' := [(2, .int v9), (0, .ref (aG + 18))]) hx hb dX0_remove_45 hl (k := 1) rfl (by rw [ev9]; rfl) (by decide) rfl (fun ls hl => ?_)
            refine lv_goto (tgt := 2) hx hb dX0_remove_48 (by decide) ?_
            exact (ih) γ8 v9 _ _ _ hG hS (lv_sub hl [1, 0] rfl) h
  unfold vc_X0_remove at h
  obtain ⟨n, h⟩ := h
  refine lv_iload_n hx hb dX0_remove_0 rfl (lv_at hl 1 rfl) ?_
  refine lv_istore_n (lv' := [(2, .int x1), (0, .ref (aG + 18)), (1, .int x1)]) hx hb dX0_remove_1 rfl hl (by decide) rfl (fun ls hl => ?_)
  exact ((K n)) γ x1 _ _ _ hG hS (lv_sub hl [1, 0] rfl) h
theorem dX1_hasPlayer_0 : decode cX1_hasPlayer 0 = .ok (.iload_n 1, 1) := by decide +kernel
theorem dX1_hasPlayer_1 : decode cX1_hasPlayer 1 = .ok (.iconst 0, 1) := by decide +kernel
theorem dX1_hasPlayer_2 : decode cX1_hasPlayer 2 = .ok (.aload_n 0, 1) := by decide +kernel
theorem dX1_hasPlayer_3 : decode cX1_hasPlayer 3 = .ok (.getfield 12, 3) := by decide +kernel
theorem dX1_hasPlayer_6 : decode cX1_hasPlayer 6 = .ok (.getfield 60, 3) := by decide +kernel
theorem dX1_hasPlayer_9 : decode cX1_hasPlayer 9 = .ok (.iconst 1, 1) := by decide +kernel
theorem dX1_hasPlayer_10 : decode cX1_hasPlayer 10 = .ok (.isub, 1) := by decide +kernel
theorem dX1_hasPlayer_11 : decode cX1_hasPlayer 11 = .ok (.invokestatic 63, 3) := by decide +kernel
theorem dX1_hasPlayer_14 : decode cX1_hasPlayer 14 = .ok (.ireturn, 1) := by decide +kernel
def vc_X1_hasPlayer (Q : Int32 → Prop) (γ : Mem) (x1 : Int32) : Prop :=
  vc_X7_within (fun r1 => narrow .boolean (.int r1) = .int r1 ∧ Q r1 ) x1 0 ((γ 1 0) - 1)
set_option maxHeartbeats 8000000 in
set_option maxRecDepth 100000 in
theorem m_X1_hasPlayer (l : Launch) (G : GG) (aG : Nat) (γ : Mem) (x1 : Int32) (Q : Int32 → Prop) (h : vc_X1_hasPlayer Q γ x1) : CtI l yX1_hasPlayer cX1_hasPlayer 2 (some .boolean) { frames := 1, cells := 0, slots := 0, locals := 22 } [.ref (aG + 0), .int x1] G (fun H => rg G LG aG γ H) (fun r (_ : Unit) => Q r) (fun _ _ => True) (fun _ => False) := by
  unfold CtI
  refine met_start (y := yX1_hasPlayer) (maxL := 2) (av := [.ref (aG + 0), .int x1]) (G := G) (P := fun H => rg G LG aG γ H) (by decide) rfl (Nat.le_of_ble_eq_true rfl) (fun p e s m below meth c ls C hr hP hK hl => ?_)
  obtain ⟨hx, hb, hml, hown, hts, hlocks⟩ := id C
  have hG : rg G LG aG γ s.heap := hP
  have hS : va_S (fun _ => False) s.heap s.heap [] := va_S.rf
  have hl : lv_has ls 2 [(0, .ref (aG + 0)), (1, .int x1)] := hl
  unfold vc_X1_hasPlayer at h
  refine lv_iload_n hx hb dX1_hasPlayer_0 rfl (lv_at hl 1 rfl) ?_
  refine lv_iconst (v := 0) hx hb dX1_hasPlayer_1 (by decide) ?_
  refine lv_aload_n hx hb dX1_hasPlayer_2 rfl (lv_at hl 0 rfl) ?_
  refine g_getR (a := aG) (k := 0) (o := 1) C hK hG fl_X1_12 rfl rfl dX1_hasPlayer_3 ?_
  refine g_getI (a := aG) (k := 1) C hK hG fl_X1_60 rfl rfl dX1_hasPlayer_6 ?_
  refine lv_iconst (v := 1) hx hb dX1_hasPlayer_9 (by decide) ?_
  refine lv_isub hx hb dX1_hasPlayer_10 ?_
  refine g_nI C hK hl.1 (m_X7_within l G x1 0 ((γ 1 0) - 1) _ h) mw_X7_within ms_X7_within nl_X1_63 rfl ⟨rfl, rfl, Nat.le_of_ble_eq_true rfl, Nat.le_of_ble_eq_true rfl⟩ ⟨Nat.zero_le _, Nat.zero_le _⟩ trivial hS (fun _ h => h.elim) rfl (Nat.le_of_ble_eq_true rfl) dX1_hasPlayer_11 (fun r1 u H locs h hu _ hq hS => ?_)
  have hG := hG.past hq (fun _ _ h => h)
  exact g_zret (post := fun r (_ : Unit) => Q r) (P' := fun _ _ => True) (r := r1) (u := ()) C hr hK hS h.1 h.2 trivial dX1_hasPlayer_14
end
section
theorem dX1_hasWorker_0 : decode cX1_hasWorker 0 = .ok (.aload_n 0, 1) := by decide +kernel
theorem dX1_hasWorker_1 : decode cX1_hasWorker 1 = .ok (.iload_n 1, 1) := by decide +kernel
theorem dX1_hasWorker_2 : decode cX1_hasWorker 2 = .ok (.invokevirtual 67, 3) := by decide +kernel
theorem dX1_hasWorker_5 : decode cX1_hasWorker 5 = .ok (.ifCond .eq 16, 3) := by decide +kernel
theorem dX1_hasWorker_8 : decode cX1_hasWorker 8 = .ok (.iload_n 2, 1) := by decide +kernel
theorem dX1_hasWorker_9 : decode cX1_hasWorker 9 = .ok (.iconst 0, 1) := by decide +kernel
theorem dX1_hasWorker_10 : decode cX1_hasWorker 10 = .ok (.iconst 2, 1) := by decide +kernel
theorem dX1_hasWorker_11 : decode cX1_hasWorker 11 = .ok (.invokestatic 63, 3) := by decide +kernel
theorem dX1_hasWorker_14 : decode cX1_hasWorker 14 = .ok (.ifCond .eq 7, 3) := by decide +kernel
theorem dX1_hasWorker_17 : decode cX1_hasWorker 17 = .ok (.iconst 1, 1) := by decide +kernel
theorem dX1_hasWorker_18 : decode cX1_hasWorker 18 = .ok (.goto 4, 3) := by decide +kernel
theorem dX1_hasWorker_21 : decode cX1_hasWorker 21 = .ok (.iconst 0, 1) := by decide +kernel
theorem dX1_hasWorker_22 : decode cX1_hasWorker 22 = .ok (.ireturn, 1) := by decide +kernel
def vc_X1_hasWorker (Q : Int32 → Prop) (γ : Mem) (x1 : Int32) (x2 : Int32) : Prop :=
  vc_X1_hasPlayer (fun r1 => ((r1 = 0) → (Q 0 )) ∧ ((¬ r1 = 0) → (vc_X7_within (fun r3 => ((r3 = 0) → (Q 0 )) ∧ ((¬ r3 = 0) → (Q 1 ))) x2 0 2))) γ x1
set_option maxHeartbeats 8000000 in
set_option maxRecDepth 100000 in
theorem m_X1_hasWorker (l : Launch) (G : GG) (aG : Nat) (γ : Mem) (x1 : Int32) (x2 : Int32) (Q : Int32 → Prop) (h : vc_X1_hasWorker Q γ x1 x2) : CtI l yX1_hasWorker cX1_hasWorker 3 (some .boolean) { frames := 2, cells := 0, slots := 0, locals := 43 } [.ref (aG + 0), .int x1, .int x2] G (fun H => rg G LG aG γ H) (fun r (_ : Unit) => Q r) (fun _ _ => True) (fun _ => False) := by
  unfold CtI
  refine met_start (y := yX1_hasWorker) (maxL := 3) (av := [.ref (aG + 0), .int x1, .int x2]) (G := G) (P := fun H => rg G LG aG γ H) (by decide) rfl (Nat.le_of_ble_eq_true rfl) (fun p e s m below meth c ls C hr hP hK hl => ?_)
  obtain ⟨hx, hb, hml, hown, hts, hlocks⟩ := id C
  have hG : rg G LG aG γ s.heap := hP
  have hS : va_S (fun _ => False) s.heap s.heap [] := va_S.rf
  have hl : lv_has ls 3 [(0, .ref (aG + 0)), (1, .int x1), (2, .int x2)] := hl
  unfold vc_X1_hasWorker at h
  refine lv_aload_n hx hb dX1_hasWorker_0 rfl (lv_at hl 0 rfl) ?_
  refine lv_iload_n hx hb dX1_hasWorker_1 rfl (lv_at hl 1 rfl) ?_
  refine g_vI C hK hl.1 (m_X1_hasPlayer l G aG γ x1 _ h) mw_X1_hasPlayer mi_X1_hasPlayer ml_X1_67 rfl ⟨rfl, rfl, Nat.le_of_ble_eq_true rfl, Nat.le_of_ble_eq_true rfl⟩ ⟨Nat.zero_le _, Nat.zero_le _⟩ (g_recv (a := aG) (k := 0) hK hG rfl rfl) hG hS (fun _ h => h.elim) rfl (Nat.le_of_ble_eq_true rfl) dX1_hasWorker_2 (fun r1 u H locs h hu _ hq hS => ?_)
  have hG := hG.past hq (fun _ _ h => h)
  refine lv_if_eq (tgt := 21) hx hb dX1_hasWorker_5 (by decide) (fun c2 => ?_) (fun c2 => ?_)
  · replace h := h.1 c2
    refine lv_iconst (v := 0) hx hb dX1_hasWorker_21 (by decide) ?_
    exact g_zret (post := fun r (_ : Unit) => Q r) (P' := fun _ _ => True) (r := 0) (u := ()) C hr hK hS (by rfl) h trivial dX1_hasWorker_22
  · replace h := h.2 c2
    refine lv_iload_n hx hb dX1_hasWorker_8 rfl (lv_at hl 2 rfl) ?_
    refine lv_iconst (v := 0) hx hb dX1_hasWorker_9 (by decide) ?_
    refine lv_iconst (v := 2) hx hb dX1_hasWorker_10 (by decide) ?_
    refine g_nI C hK hl.1 (m_X7_within l G x2 0 2 _ h) mw_X7_within ms_X7_within nl_X1_63 rfl ⟨rfl, rfl, Nat.le_of_ble_eq_true rfl, Nat.le_of_ble_eq_true rfl⟩ ⟨Nat.zero_le _, Nat.zero_le _⟩ trivial hS (fun _ h => h.elim) rfl (Nat.le_of_ble_eq_true rfl) dX1_hasWorker_11 (fun r3 u H locs h hu _ hq hS => ?_)
    have hG := hG.past hq (fun _ _ h => h)
    refine lv_if_eq (tgt := 21) hx hb dX1_hasWorker_14 (by decide) (fun c4 => ?_) (fun c4 => ?_)
    · replace h := h.1 c4
      refine lv_iconst (v := 0) hx hb dX1_hasWorker_21 (by decide) ?_
      exact g_zret (post := fun r (_ : Unit) => Q r) (P' := fun _ _ => True) (r := 0) (u := ()) C hr hK hS (by rfl) h trivial dX1_hasWorker_22
    · replace h := h.2 c4
      refine lv_iconst (v := 1) hx hb dX1_hasWorker_17 (by decide) ?_
      refine lv_goto (tgt := 22) hx hb dX1_hasWorker_18 (by decide) ?_
      exact g_zret (post := fun r (_ : Unit) => Q r) (P' := fun _ _ => True) (r := 1) (u := ()) C hr hK hS (by rfl) h trivial dX1_hasWorker_22
theorem dX1_hasTask_0 : decode cX1_hasTask 0 = .ok (.iload_n 1, 1) := by decide +kernel
theorem dX1_hasTask_1 : decode cX1_hasTask 1 = .ok (.iconst 0, 1) := by decide +kernel
theorem dX1_hasTask_2 : decode cX1_hasTask 2 = .ok (.aload_n 0, 1) := by decide +kernel
theorem dX1_hasTask_3 : decode cX1_hasTask 3 = .ok (.getfield 28, 3) := by decide +kernel
theorem dX1_hasTask_6 : decode cX1_hasTask 6 = .ok (.getfield 71, 3) := by decide +kernel
theorem dX1_hasTask_9 : decode cX1_hasTask 9 = .ok (.iconst 1, 1) := by decide +kernel
theorem dX1_hasTask_10 : decode cX1_hasTask 10 = .ok (.isub, 1) := by decide +kernel
theorem dX1_hasTask_11 : decode cX1_hasTask 11 = .ok (.invokestatic 63, 3) := by decide +kernel
theorem dX1_hasTask_14 : decode cX1_hasTask 14 = .ok (.ireturn, 1) := by decide +kernel
def vc_X1_hasTask (Q : Int32 → Prop) (γ : Mem) (x1 : Int32) : Prop :=
  vc_X7_within (fun r1 => narrow .boolean (.int r1) = .int r1 ∧ Q r1 ) x1 0 ((γ 12 0) - 1)
set_option maxHeartbeats 8000000 in
set_option maxRecDepth 100000 in
theorem m_X1_hasTask (l : Launch) (G : GG) (aG : Nat) (γ : Mem) (x1 : Int32) (Q : Int32 → Prop) (h : vc_X1_hasTask Q γ x1) : CtI l yX1_hasTask cX1_hasTask 2 (some .boolean) { frames := 1, cells := 0, slots := 0, locals := 22 } [.ref (aG + 0), .int x1] G (fun H => rg G LG aG γ H) (fun r (_ : Unit) => Q r) (fun _ _ => True) (fun _ => False) := by
  unfold CtI
  refine met_start (y := yX1_hasTask) (maxL := 2) (av := [.ref (aG + 0), .int x1]) (G := G) (P := fun H => rg G LG aG γ H) (by decide) rfl (Nat.le_of_ble_eq_true rfl) (fun p e s m below meth c ls C hr hP hK hl => ?_)
  obtain ⟨hx, hb, hml, hown, hts, hlocks⟩ := id C
  have hG : rg G LG aG γ s.heap := hP
  have hS : va_S (fun _ => False) s.heap s.heap [] := va_S.rf
  have hl : lv_has ls 2 [(0, .ref (aG + 0)), (1, .int x1)] := hl
  unfold vc_X1_hasTask at h
  refine lv_iload_n hx hb dX1_hasTask_0 rfl (lv_at hl 1 rfl) ?_
  refine lv_iconst (v := 0) hx hb dX1_hasTask_1 (by decide) ?_
  refine lv_aload_n hx hb dX1_hasTask_2 rfl (lv_at hl 0 rfl) ?_
  refine g_getR (a := aG) (k := 0) (o := 12) C hK hG fl_X1_28 rfl rfl dX1_hasTask_3 ?_
  refine g_getI (a := aG) (k := 12) C hK hG fl_X1_71 rfl rfl dX1_hasTask_6 ?_
  refine lv_iconst (v := 1) hx hb dX1_hasTask_9 (by decide) ?_
  refine lv_isub hx hb dX1_hasTask_10 ?_
  refine g_nI C hK hl.1 (m_X7_within l G x1 0 ((γ 12 0) - 1) _ h) mw_X7_within ms_X7_within nl_X1_63 rfl ⟨rfl, rfl, Nat.le_of_ble_eq_true rfl, Nat.le_of_ble_eq_true rfl⟩ ⟨Nat.zero_le _, Nat.zero_le _⟩ trivial hS (fun _ h => h.elim) rfl (Nat.le_of_ble_eq_true rfl) dX1_hasTask_11 (fun r1 u H locs h hu _ hq hS => ?_)
  have hG := hG.past hq (fun _ _ h => h)
  exact g_zret (post := fun r (_ : Unit) => Q r) (P' := fun _ _ => True) (r := r1) (u := ()) C hr hK hS h.1 h.2 trivial dX1_hasTask_14
theorem dX1_hasContract_0 : decode cX1_hasContract 0 = .ok (.iload_n 1, 1) := by decide +kernel
theorem dX1_hasContract_1 : decode cX1_hasContract 1 = .ok (.iconst 0, 1) := by decide +kernel
theorem dX1_hasContract_2 : decode cX1_hasContract 2 = .ok (.aload_n 0, 1) := by decide +kernel
theorem dX1_hasContract_3 : decode cX1_hasContract 3 = .ok (.getfield 35, 3) := by decide +kernel
theorem dX1_hasContract_6 : decode cX1_hasContract 6 = .ok (.getfield 72, 3) := by decide +kernel
theorem dX1_hasContract_9 : decode cX1_hasContract 9 = .ok (.iconst 1, 1) := by decide +kernel
theorem dX1_hasContract_10 : decode cX1_hasContract 10 = .ok (.isub, 1) := by decide +kernel
theorem dX1_hasContract_11 : decode cX1_hasContract 11 = .ok (.invokestatic 63, 3) := by decide +kernel
theorem dX1_hasContract_14 : decode cX1_hasContract 14 = .ok (.ireturn, 1) := by decide +kernel
def vc_X1_hasContract (Q : Int32 → Prop) (γ : Mem) (x1 : Int32) : Prop :=
  vc_X7_within (fun r1 => narrow .boolean (.int r1) = .int r1 ∧ Q r1 ) x1 0 ((γ 18 0) - 1)
set_option maxHeartbeats 8000000 in
set_option maxRecDepth 100000 in
theorem m_X1_hasContract (l : Launch) (G : GG) (aG : Nat) (γ : Mem) (x1 : Int32) (Q : Int32 → Prop) (h : vc_X1_hasContract Q γ x1) : CtI l yX1_hasContract cX1_hasContract 2 (some .boolean) { frames := 1, cells := 0, slots := 0, locals := 22 } [.ref (aG + 0), .int x1] G (fun H => rg G LG aG γ H) (fun r (_ : Unit) => Q r) (fun _ _ => True) (fun _ => False) := by
  unfold CtI
  refine met_start (y := yX1_hasContract) (maxL := 2) (av := [.ref (aG + 0), .int x1]) (G := G) (P := fun H => rg G LG aG γ H) (by decide) rfl (Nat.le_of_ble_eq_true rfl) (fun p e s m below meth c ls C hr hP hK hl => ?_)
  obtain ⟨hx, hb, hml, hown, hts, hlocks⟩ := id C
  have hG : rg G LG aG γ s.heap := hP
  have hS : va_S (fun _ => False) s.heap s.heap [] := va_S.rf
  have hl : lv_has ls 2 [(0, .ref (aG + 0)), (1, .int x1)] := hl
  unfold vc_X1_hasContract at h
  refine lv_iload_n hx hb dX1_hasContract_0 rfl (lv_at hl 1 rfl) ?_
  refine lv_iconst (v := 0) hx hb dX1_hasContract_1 (by decide) ?_
  refine lv_aload_n hx hb dX1_hasContract_2 rfl (lv_at hl 0 rfl) ?_
  refine g_getR (a := aG) (k := 0) (o := 18) C hK hG fl_X1_35 rfl rfl dX1_hasContract_3 ?_
  refine g_getI (a := aG) (k := 18) C hK hG fl_X1_72 rfl rfl dX1_hasContract_6 ?_
  refine lv_iconst (v := 1) hx hb dX1_hasContract_9 (by decide) ?_
  refine lv_isub hx hb dX1_hasContract_10 ?_
  refine g_nI C hK hl.1 (m_X7_within l G x1 0 ((γ 18 0) - 1) _ h) mw_X7_within ms_X7_within nl_X1_63 rfl ⟨rfl, rfl, Nat.le_of_ble_eq_true rfl, Nat.le_of_ble_eq_true rfl⟩ ⟨Nat.zero_le _, Nat.zero_le _⟩ trivial hS (fun _ h => h.elim) rfl (Nat.le_of_ble_eq_true rfl) dX1_hasContract_11 (fun r1 u H locs h hu _ hq hS => ?_)
  have hG := hG.past hq (fun _ _ h => h)
  exact g_zret (post := fun r (_ : Unit) => Q r) (P' := fun _ _ => True) (r := r1) (u := ()) C hr hK hS h.1 h.2 trivial dX1_hasContract_14
theorem dX1_addPlayer_0 : decode cX1_addPlayer 0 = .ok (.aload_n 0, 1) := by decide +kernel
theorem dX1_addPlayer_1 : decode cX1_addPlayer 1 = .ok (.getfield 12, 3) := by decide +kernel
theorem dX1_addPlayer_4 : decode cX1_addPlayer 4 = .ok (.getfield 60, 3) := by decide +kernel
theorem dX1_addPlayer_7 : decode cX1_addPlayer 7 = .ok (.iconst 4, 1) := by decide +kernel
theorem dX1_addPlayer_8 : decode cX1_addPlayer 8 = .ok (.if_icmp .lt 6, 3) := by decide +kernel
theorem dX1_addPlayer_11 : decode cX1_addPlayer 11 = .ok (.ldc 73, 2) := by decide +kernel
theorem dX1_addPlayer_13 : decode cX1_addPlayer 13 = .ok (.ireturn, 1) := by decide +kernel
theorem dX1_addPlayer_14 : decode cX1_addPlayer 14 = .ok (.aload_n 0, 1) := by decide +kernel
theorem dX1_addPlayer_15 : decode cX1_addPlayer 15 = .ok (.getfield 12, 3) := by decide +kernel
theorem dX1_addPlayer_18 : decode cX1_addPlayer 18 = .ok (.getfield 60, 3) := by decide +kernel
theorem dX1_addPlayer_21 : decode cX1_addPlayer 21 = .ok (.istore_n 1, 1) := by decide +kernel
theorem dX1_addPlayer_22 : decode cX1_addPlayer 22 = .ok (.aload_n 0, 1) := by decide +kernel
theorem dX1_addPlayer_23 : decode cX1_addPlayer 23 = .ok (.getfield 12, 3) := by decide +kernel
theorem dX1_addPlayer_26 : decode cX1_addPlayer 26 = .ok (.dup, 1) := by decide +kernel
theorem dX1_addPlayer_27 : decode cX1_addPlayer 27 = .ok (.getfield 60, 3) := by decide +kernel
theorem dX1_addPlayer_30 : decode cX1_addPlayer 30 = .ok (.iconst 1, 1) := by decide +kernel
theorem dX1_addPlayer_31 : decode cX1_addPlayer 31 = .ok (.iadd, 1) := by decide +kernel
theorem dX1_addPlayer_32 : decode cX1_addPlayer 32 = .ok (.putfield 60, 3) := by decide +kernel
theorem dX1_addPlayer_35 : decode cX1_addPlayer 35 = .ok (.iload_n 1, 1) := by decide +kernel
theorem dX1_addPlayer_36 : decode cX1_addPlayer 36 = .ok (.ireturn, 1) := by decide +kernel
def vc_X1_addPlayer (Q : Int32 → Mem → Prop) (γ : Mem) : Prop :=
  (((γ 1 0) < 4) → (∀ v2 : Int32, v2 = (γ 1 0) → (∀ γ3 : Mem, γ3 = up γ 1 0 ((γ 1 0) + 1) → (Q v2 γ3)))) ∧ ((¬ (γ 1 0) < 4) → (Q (-1000003) γ))
set_option maxHeartbeats 8000000 in
set_option maxRecDepth 100000 in
theorem m_X1_addPlayer (l : Launch) (G : GG) (aG : Nat) (γ : Mem) (Q : Int32 → Mem → Prop) (h : vc_X1_addPlayer Q γ) : CtI l yX1_addPlayer cX1_addPlayer 2 (some .int) { frames := 0, cells := 0, slots := 0, locals := 0 } [.ref (aG + 0)] G (fun H => rg G LG aG γ H) (Q) (fun u H => rg G LG aG u H) (RA aG 22) := by
  unfold CtI
  refine met_start (y := yX1_addPlayer) (maxL := 2) (av := [.ref (aG + 0)]) (G := G) (P := fun H => rg G LG aG γ H) (by decide) rfl (Nat.le_of_ble_eq_true rfl) (fun p e s m below meth c ls C hr hP hK hl => ?_)
  obtain ⟨hx, hb, hml, hown, hts, hlocks⟩ := id C
  have hG : rg G LG aG γ s.heap := hP
  have hS : va_S (RA aG 22) s.heap s.heap [] := va_S.rf
  have hl : lv_has ls 2 [(0, .ref (aG + 0))] := hl
  unfold vc_X1_addPlayer at h
  refine lv_aload_n hx hb dX1_addPlayer_0 rfl (lv_at hl 0 rfl) ?_
  refine g_getR (a := aG) (k := 0) (o := 1) C hK hG fl_X1_12 rfl rfl dX1_addPlayer_1 ?_
  refine g_getI (a := aG) (k := 1) C hK hG fl_X1_60 rfl rfl dX1_addPlayer_4 ?_
  refine lv_iconst (v := 4) hx hb dX1_addPlayer_7 (by decide) ?_
  refine lv_icmp_lt (tgt := 14) hx hb dX1_addPlayer_8 (by decide) (fun c1 => ?_) (fun c1 => ?_)
  · replace h := h.1 c1
    refine lv_aload_n hx hb dX1_addPlayer_14 rfl (lv_at hl 0 rfl) ?_
    refine g_getR (a := aG) (k := 0) (o := 1) C hK hG fl_X1_12 rfl rfl dX1_addPlayer_15 ?_
    refine g_getI (a := aG) (k := 1) C hK hG fl_X1_60 rfl rfl dX1_addPlayer_18 ?_
    refine lv_topi (fun v2 ev2 => ?_)
    specialize h v2 ev2
    refine lv_istore_n (lv' := [(1, .int v2), (0, .ref (aG + 0))]) hx hb dX1_addPlayer_21 rfl hl (by decide) rfl (fun ls hl => ?_)
    refine lv_aload_n hx hb dX1_addPlayer_22 rfl (lv_at hl 1 rfl) ?_
    refine g_getR (a := aG) (k := 0) (o := 1) C hK hG fl_X1_12 rfl rfl dX1_addPlayer_23 ?_
    refine lv_dup hx hb dX1_addPlayer_26 rfl ?_
    refine g_getI (a := aG) (k := 1) C hK hG fl_X1_60 rfl rfl dX1_addPlayer_27 ?_
    refine lv_iconst (v := 1) hx hb dX1_addPlayer_30 (by decide) ?_
    refine lv_iadd hx hb dX1_addPlayer_31 ?_
    refine g_put (a := aG) (k := 1) C hK hG hS fl_X1_60 fp_X5_0 rfl rfl (by rfl) (by rfl) (RA_in (by decide)) dX1_addPlayer_32 (fun γ3 H locs eγ3 hG hS hq => ?_)
    specialize h γ3 eγ3
    refine lv_iload_n hx hb dX1_addPlayer_35 rfl (lv_at hl 0 rfl) ?_
    exact g_iret (post := Q) (P' := fun u H => rg G LG aG u H) (r := v2) (u := γ3) C hr hK hS h hG dX1_addPlayer_36
  · replace h := h.2 c1
    refine g_ldc C kc_X1_73 dX1_addPlayer_11 ?_
    exact g_iret (post := Q) (P' := fun u H => rg G LG aG u H) (r := (-1000003)) (u := γ) C hr hK hS h hG dX1_addPlayer_13
theorem dX1_setSize_0 : decode cX1_setSize 0 = .ok (.aload_n 0, 1) := by decide +kernel
theorem dX1_setSize_1 : decode cX1_setSize 1 = .ok (.iload_n 1, 1) := by decide +kernel
theorem dX1_setSize_2 : decode cX1_setSize 2 = .ok (.iload_n 2, 1) := by decide +kernel
theorem dX1_setSize_3 : decode cX1_setSize 3 = .ok (.invokevirtual 74, 3) := by decide +kernel
theorem dX1_setSize_6 : decode cX1_setSize 6 = .ok (.ifCond .eq 14, 3) := by decide +kernel
theorem dX1_setSize_9 : decode cX1_setSize 9 = .ok (.iload_n 3, 1) := by decide +kernel
theorem dX1_setSize_10 : decode cX1_setSize 10 = .ok (.iconst 5, 1) := by decide +kernel
theorem dX1_setSize_11 : decode cX1_setSize 11 = .ok (.sipush 300, 3) := by decide +kernel
theorem dX1_setSize_14 : decode cX1_setSize 14 = .ok (.invokestatic 63, 3) := by decide +kernel
theorem dX1_setSize_17 : decode cX1_setSize 17 = .ok (.ifCond .ne 6, 3) := by decide +kernel
theorem dX1_setSize_20 : decode cX1_setSize 20 = .ok (.ldc 78, 2) := by decide +kernel
theorem dX1_setSize_22 : decode cX1_setSize 22 = .ok (.ireturn, 1) := by decide +kernel
theorem dX1_setSize_23 : decode cX1_setSize 23 = .ok (.iload_n 1, 1) := by decide +kernel
theorem dX1_setSize_24 : decode cX1_setSize 24 = .ok (.iload_n 2, 1) := by decide +kernel
theorem dX1_setSize_25 : decode cX1_setSize 25 = .ok (.invokestatic 79, 3) := by decide +kernel
theorem dX1_setSize_28 : decode cX1_setSize 28 = .ok (.istore 4, 2) := by decide +kernel
theorem dX1_setSize_30 : decode cX1_setSize 30 = .ok (.aload_n 0, 1) := by decide +kernel
theorem dX1_setSize_31 : decode cX1_setSize 31 = .ok (.getfield 21, 3) := by decide +kernel
theorem dX1_setSize_34 : decode cX1_setSize 34 = .ok (.iload 4, 2) := by decide +kernel
theorem dX1_setSize_36 : decode cX1_setSize 36 = .ok (.invokevirtual 83, 3) := by decide +kernel
theorem dX1_setSize_39 : decode cX1_setSize 39 = .ok (.ifCond .ne 6, 3) := by decide +kernel
theorem dX1_setSize_42 : decode cX1_setSize 42 = .ok (.ldc 86, 2) := by decide +kernel
theorem dX1_setSize_44 : decode cX1_setSize 44 = .ok (.ireturn, 1) := by decide +kernel
theorem dX1_setSize_45 : decode cX1_setSize 45 = .ok (.aload_n 0, 1) := by decide +kernel
theorem dX1_setSize_46 : decode cX1_setSize 46 = .ok (.getfield 21, 3) := by decide +kernel
theorem dX1_setSize_49 : decode cX1_setSize 49 = .ok (.getfield 87, 3) := by decide +kernel
theorem dX1_setSize_52 : decode cX1_setSize 52 = .ok (.iload 4, 2) := by decide +kernel
theorem dX1_setSize_54 : decode cX1_setSize 54 = .ok (.iaload, 1) := by decide +kernel
theorem dX1_setSize_55 : decode cX1_setSize 55 = .ok (.istore 5, 2) := by decide +kernel
theorem dX1_setSize_57 : decode cX1_setSize 57 = .ok (.aload_n 0, 1) := by decide +kernel
theorem dX1_setSize_58 : decode cX1_setSize 58 = .ok (.getfield 21, 3) := by decide +kernel
theorem dX1_setSize_61 : decode cX1_setSize 61 = .ok (.getfield 87, 3) := by decide +kernel
theorem dX1_setSize_64 : decode cX1_setSize 64 = .ok (.iload 4, 2) := by decide +kernel
theorem dX1_setSize_66 : decode cX1_setSize 66 = .ok (.iload_n 3, 1) := by decide +kernel
theorem dX1_setSize_67 : decode cX1_setSize 67 = .ok (.iastore, 1) := by decide +kernel
theorem dX1_setSize_68 : decode cX1_setSize 68 = .ok (.iload 5, 2) := by decide +kernel
theorem dX1_setSize_70 : decode cX1_setSize 70 = .ok (.ireturn, 1) := by decide +kernel
def vc_X1_setSize (Q : Int32 → Mem → Prop) (γ : Mem) (x1 : Int32) (x2 : Int32) (x3 : Int32) : Prop :=
  vc_X1_hasWorker (fun r1 => ((r1 = 0) → (Q (-1000001) γ)) ∧ ((¬ r1 = 0) → (vc_X7_within (fun r3 => ((¬ r3 = 0) → (vc_X7_glassOf (fun r5 => vc_X2_isOut (fun r6 => ((¬ r6 = 0) → (vp_in r5 12 ∧ (∀ v9 : Int32, v9 = (γ 5 r5.toNatClampNeg) → ((∀ γ10 : Mem, γ10 = up γ 5 r5.toNatClampNeg x3 → (Q v9 γ10)))))) ∧ ((r6 = 0) → (Q (-1000002) γ))) γ r5) x1 x2)) ∧ ((r3 = 0) → (Q (-1000001) γ))) x3 5 300))) γ x1 x2
set_option maxHeartbeats 8000000 in
set_option maxRecDepth 100000 in
theorem m_X1_setSize (l : Launch) (G : GG) (aG : Nat) (γ : Mem) (x1 : Int32) (x2 : Int32) (x3 : Int32) (Q : Int32 → Mem → Prop) (h : vc_X1_setSize Q γ x1 x2 x3) : CtI l yX1_setSize cX1_setSize 6 (some .int) { frames := 3, cells := 0, slots := 0, locals := 65 } [.ref (aG + 0), .int x1, .int x2, .int x3] G (fun H => rg G LG aG γ H) (Q) (fun u H => rg G LG aG u H) (RA aG 22) := by
  unfold CtI
  refine met_start (y := yX1_setSize) (maxL := 6) (av := [.ref (aG + 0), .int x1, .int x2, .int x3]) (G := G) (P := fun H => rg G LG aG γ H) (by decide) rfl (Nat.le_of_ble_eq_true rfl) (fun p e s m below meth c ls C hr hP hK hl => ?_)
  obtain ⟨hx, hb, hml, hown, hts, hlocks⟩ := id C
  have hG : rg G LG aG γ s.heap := hP
  have hS : va_S (RA aG 22) s.heap s.heap [] := va_S.rf
  have hl : lv_has ls 6 [(0, .ref (aG + 0)), (1, .int x1), (2, .int x2), (3, .int x3)] := hl
  unfold vc_X1_setSize at h
  refine lv_aload_n hx hb dX1_setSize_0 rfl (lv_at hl 0 rfl) ?_
  refine lv_iload_n hx hb dX1_setSize_1 rfl (lv_at hl 1 rfl) ?_
  refine lv_iload_n hx hb dX1_setSize_2 rfl (lv_at hl 2 rfl) ?_
  refine g_vI C hK hl.1 (m_X1_hasWorker l G aG γ x1 x2 _ h) mw_X1_hasWorker mi_X1_hasWorker ml_X1_74 rfl ⟨rfl, rfl, Nat.le_of_ble_eq_true rfl, Nat.le_of_ble_eq_true rfl⟩ ⟨Nat.zero_le _, Nat.zero_le _⟩ (g_recv (a := aG) (k := 0) hK hG rfl rfl) hG hS (fun _ h => h.elim) rfl (Nat.le_of_ble_eq_true rfl) dX1_setSize_3 (fun r1 u H locs h hu _ hq hS => ?_)
  have hG := hG.past hq (fun _ _ h => h)
  refine lv_if_eq (tgt := 20) hx hb dX1_setSize_6 (by decide) (fun c2 => ?_) (fun c2 => ?_)
  · replace h := h.1 c2
    refine g_ldc C kc_X1_78 dX1_setSize_20 ?_
    exact g_iret (post := Q) (P' := fun u H => rg G LG aG u H) (r := (-1000001)) (u := γ) C hr hK hS h hG dX1_setSize_22
  · replace h := h.2 c2
    refine lv_iload_n hx hb dX1_setSize_9 rfl (lv_at hl 3 rfl) ?_
    refine lv_iconst (v := 5) hx hb dX1_setSize_10 (by decide) ?_
    refine lv_sipush (v := 300) hx hb dX1_setSize_11 (by decide) ?_
    refine g_nI C hK hl.1 (m_X7_within l G x3 5 300 _ h) mw_X7_within ms_X7_within nl_X1_63 rfl ⟨rfl, rfl, Nat.le_of_ble_eq_true rfl, Nat.le_of_ble_eq_true rfl⟩ ⟨Nat.zero_le _, Nat.zero_le _⟩ trivial hS (fun _ h => h.elim) rfl (Nat.le_of_ble_eq_true rfl) dX1_setSize_14 (fun r3 u H locs h hu _ hq hS => ?_)
    have hG := hG.past hq (fun _ _ h => h)
    refine lv_if_ne (tgt := 23) hx hb dX1_setSize_17 (by decide) (fun c4 => ?_) (fun c4 => ?_)
    · replace h := h.1 c4
      refine lv_iload_n hx hb dX1_setSize_23 rfl (lv_at hl 1 rfl) ?_
      refine lv_iload_n hx hb dX1_setSize_24 rfl (lv_at hl 2 rfl) ?_
      refine g_nI C hK hl.1 (m_X7_glassOf l G x1 x2 _ h) mw_X7_glassOf ms_X7_glassOf nl_X1_79 rfl ⟨rfl, rfl, Nat.le_of_ble_eq_true rfl, Nat.le_of_ble_eq_true rfl⟩ ⟨Nat.zero_le _, Nat.zero_le _⟩ trivial hS (fun _ h => h.elim) rfl (Nat.le_of_ble_eq_true rfl) dX1_setSize_25 (fun r5 u H locs h hu _ hq hS => ?_)
      have hG := hG.past hq (fun _ _ h => h)
      refine lv_istore (lv' := [(4, .int r5), (0, .ref (aG + 0)), (1, .int x1), (2, .int x2), (3, .int x3)]) hx hb dX1_setSize_28 hl (by decide) rfl (fun ls hl => ?_)
      refine lv_aload_n hx hb dX1_setSize_30 rfl (lv_at hl 1 rfl) ?_
      refine g_getR (a := aG) (k := 0) (o := 4) C hK hG fl_X1_21 rfl rfl dX1_setSize_31 ?_
      refine lv_iload hx hb dX1_setSize_34 (lv_at hl 0 rfl) ?_
      refine g_vI C hK hl.1 (m_X2_isOut l G aG γ r5 _ h) mw_X2_isOut mi_X2_isOut ml_X1_83 rfl ⟨rfl, rfl, Nat.le_of_ble_eq_true rfl, Nat.le_of_ble_eq_true rfl⟩ ⟨Nat.zero_le _, Nat.zero_le _⟩ (g_recv (a := aG) (k := 4) hK hG rfl rfl) hG hS (fun _ h => h.elim) rfl (Nat.le_of_ble_eq_true rfl) dX1_setSize_36 (fun r6 u H locs h hu _ hq hS => ?_)
      have hG := hG.past hq (fun _ _ h => h)
      refine lv_if_ne (tgt := 45) hx hb dX1_setSize_39 (by decide) (fun c7 => ?_) (fun c7 => ?_)
      · replace h := h.1 c7
        refine lv_aload_n hx hb dX1_setSize_45 rfl (lv_at hl 1 rfl) ?_
        refine g_getR (a := aG) (k := 0) (o := 4) C hK hG fl_X1_21 rfl rfl dX1_setSize_46 ?_
        refine g_getR (a := aG) (k := 4) (o := 5) C hK hG fl_X1_87 rfl rfl dX1_setSize_49 ?_
        refine lv_iload hx hb dX1_setSize_52 (lv_at hl 0 rfl) ?_
        obtain ⟨b8, h⟩ := h
        refine g_ald (a := aG) (k := 5) (n := 12) C hK hG rfl b8 dX1_setSize_54 ?_
        refine lv_topi (fun v9 ev9 => ?_)
        specialize h v9 ev9
        refine lv_istore (lv' := [(5, .int v9), (4, .int r5), (0, .ref (aG + 0)), (1, .int x1), (2, .int x2), (3, .int x3)]) hx hb dX1_setSize_55 hl (by decide) rfl (fun ls hl => ?_)
        refine lv_aload_n hx hb dX1_setSize_57 rfl (lv_at hl 2 rfl) ?_
        refine g_getR (a := aG) (k := 0) (o := 4) C hK hG fl_X1_21 rfl rfl dX1_setSize_58 ?_
        refine g_getR (a := aG) (k := 4) (o := 5) C hK hG fl_X1_87 rfl rfl dX1_setSize_61 ?_
        refine lv_iload hx hb dX1_setSize_64 (lv_at hl 1 rfl) ?_
        refine lv_iload_n hx hb dX1_setSize_66 rfl (lv_at hl 5 rfl) ?_
        refine g_ast (a := aG) (k := 5) (n := 12) C hK hG hS rfl b8 (RA_in (by decide)) dX1_setSize_67 (fun γ10 H locs eγ10 hG hS hq => ?_)
        specialize h γ10 eγ10
        refine lv_iload hx hb dX1_setSize_68 (lv_at hl 0 rfl) ?_
        exact g_iret (post := Q) (P' := fun u H => rg G LG aG u H) (r := v9) (u := γ10) C hr hK hS h hG dX1_setSize_70
      · replace h := h.2 c7
        refine g_ldc C kc_X1_86 dX1_setSize_42 ?_
        exact g_iret (post := Q) (P' := fun u H => rg G LG aG u H) (r := (-1000002)) (u := γ) C hr hK hS h hG dX1_setSize_44
    · replace h := h.2 c4
      refine g_ldc C kc_X1_78 dX1_setSize_20 ?_
      exact g_iret (post := Q) (P' := fun u H => rg G LG aG u H) (r := (-1000001)) (u := γ) C hr hK hS h hG dX1_setSize_22
theorem dX1_addTask_0 : decode cX1_addTask 0 = .ok (.iload_n 1, 1) := by decide +kernel
theorem dX1_addTask_1 : decode cX1_addTask 1 = .ok (.iconst 1, 1) := by decide +kernel
theorem dX1_addTask_2 : decode cX1_addTask 2 = .ok (.iconst 3, 1) := by decide +kernel
theorem dX1_addTask_3 : decode cX1_addTask 3 = .ok (.invokestatic 63, 3) := by decide +kernel
theorem dX1_addTask_6 : decode cX1_addTask 6 = .ok (.ifCond .eq 35, 3) := by decide +kernel
theorem dX1_addTask_9 : decode cX1_addTask 9 = .ok (.iload_n 2, 1) := by decide +kernel
theorem dX1_addTask_10 : decode cX1_addTask 10 = .ok (.iconst 0, 1) := by decide +kernel
theorem dX1_addTask_11 : decode cX1_addTask 11 = .ok (.sipush 999, 3) := by decide +kernel
theorem dX1_addTask_14 : decode cX1_addTask 14 = .ok (.invokestatic 63, 3) := by decide +kernel
theorem dX1_addTask_17 : decode cX1_addTask 17 = .ok (.ifCond .eq 24, 3) := by decide +kernel
theorem dX1_addTask_20 : decode cX1_addTask 20 = .ok (.iload_n 3, 1) := by decide +kernel
theorem dX1_addTask_21 : decode cX1_addTask 21 = .ok (.iconst 0, 1) := by decide +kernel
theorem dX1_addTask_22 : decode cX1_addTask 22 = .ok (.sipush 999, 3) := by decide +kernel
theorem dX1_addTask_25 : decode cX1_addTask 25 = .ok (.invokestatic 63, 3) := by decide +kernel
theorem dX1_addTask_28 : decode cX1_addTask 28 = .ok (.ifCond .eq 13, 3) := by decide +kernel
theorem dX1_addTask_31 : decode cX1_addTask 31 = .ok (.iload 4, 2) := by decide +kernel
theorem dX1_addTask_33 : decode cX1_addTask 33 = .ok (.iconst 0, 1) := by decide +kernel
theorem dX1_addTask_34 : decode cX1_addTask 34 = .ok (.iconst 2, 1) := by decide +kernel
theorem dX1_addTask_35 : decode cX1_addTask 35 = .ok (.invokestatic 63, 3) := by decide +kernel
theorem dX1_addTask_38 : decode cX1_addTask 38 = .ok (.ifCond .ne 6, 3) := by decide +kernel
theorem dX1_addTask_41 : decode cX1_addTask 41 = .ok (.ldc 78, 2) := by decide +kernel
theorem dX1_addTask_43 : decode cX1_addTask 43 = .ok (.ireturn, 1) := by decide +kernel
theorem dX1_addTask_44 : decode cX1_addTask 44 = .ok (.aload_n 0, 1) := by decide +kernel
theorem dX1_addTask_45 : decode cX1_addTask 45 = .ok (.getfield 28, 3) := by decide +kernel
theorem dX1_addTask_48 : decode cX1_addTask 48 = .ok (.getfield 71, 3) := by decide +kernel
theorem dX1_addTask_51 : decode cX1_addTask 51 = .ok (.bipush 8, 2) := by decide +kernel
theorem dX1_addTask_53 : decode cX1_addTask 53 = .ok (.if_icmp .lt 6, 3) := by decide +kernel
theorem dX1_addTask_56 : decode cX1_addTask 56 = .ok (.ldc 73, 2) := by decide +kernel
theorem dX1_addTask_58 : decode cX1_addTask 58 = .ok (.ireturn, 1) := by decide +kernel
theorem dX1_addTask_59 : decode cX1_addTask 59 = .ok (.aload_n 0, 1) := by decide +kernel
theorem dX1_addTask_60 : decode cX1_addTask 60 = .ok (.getfield 28, 3) := by decide +kernel
theorem dX1_addTask_63 : decode cX1_addTask 63 = .ok (.getfield 71, 3) := by decide +kernel
theorem dX1_addTask_66 : decode cX1_addTask 66 = .ok (.istore 5, 2) := by decide +kernel
theorem dX1_addTask_68 : decode cX1_addTask 68 = .ok (.aload_n 0, 1) := by decide +kernel
theorem dX1_addTask_69 : decode cX1_addTask 69 = .ok (.getfield 28, 3) := by decide +kernel
theorem dX1_addTask_72 : decode cX1_addTask 72 = .ok (.getfield 90, 3) := by decide +kernel
theorem dX1_addTask_75 : decode cX1_addTask 75 = .ok (.iload 5, 2) := by decide +kernel
theorem dX1_addTask_77 : decode cX1_addTask 77 = .ok (.iload_n 1, 1) := by decide +kernel
theorem dX1_addTask_78 : decode cX1_addTask 78 = .ok (.iastore, 1) := by decide +kernel
theorem dX1_addTask_79 : decode cX1_addTask 79 = .ok (.aload_n 0, 1) := by decide +kernel
theorem dX1_addTask_80 : decode cX1_addTask 80 = .ok (.getfield 28, 3) := by decide +kernel
theorem dX1_addTask_83 : decode cX1_addTask 83 = .ok (.getfield 93, 3) := by decide +kernel
theorem dX1_addTask_86 : decode cX1_addTask 86 = .ok (.iload 5, 2) := by decide +kernel
theorem dX1_addTask_88 : decode cX1_addTask 88 = .ok (.iload_n 2, 1) := by decide +kernel
theorem dX1_addTask_89 : decode cX1_addTask 89 = .ok (.iastore, 1) := by decide +kernel
theorem dX1_addTask_90 : decode cX1_addTask 90 = .ok (.aload_n 0, 1) := by decide +kernel
theorem dX1_addTask_91 : decode cX1_addTask 91 = .ok (.getfield 28, 3) := by decide +kernel
theorem dX1_addTask_94 : decode cX1_addTask 94 = .ok (.getfield 96, 3) := by decide +kernel
theorem dX1_addTask_97 : decode cX1_addTask 97 = .ok (.iload 5, 2) := by decide +kernel
theorem dX1_addTask_99 : decode cX1_addTask 99 = .ok (.iload_n 3, 1) := by decide +kernel
theorem dX1_addTask_100 : decode cX1_addTask 100 = .ok (.iastore, 1) := by decide +kernel
theorem dX1_addTask_101 : decode cX1_addTask 101 = .ok (.aload_n 0, 1) := by decide +kernel
theorem dX1_addTask_102 : decode cX1_addTask 102 = .ok (.getfield 28, 3) := by decide +kernel
theorem dX1_addTask_105 : decode cX1_addTask 105 = .ok (.getfield 99, 3) := by decide +kernel
theorem dX1_addTask_108 : decode cX1_addTask 108 = .ok (.iload 5, 2) := by decide +kernel
theorem dX1_addTask_110 : decode cX1_addTask 110 = .ok (.iload 4, 2) := by decide +kernel
theorem dX1_addTask_112 : decode cX1_addTask 112 = .ok (.iastore, 1) := by decide +kernel
theorem dX1_addTask_113 : decode cX1_addTask 113 = .ok (.aload_n 0, 1) := by decide +kernel
theorem dX1_addTask_114 : decode cX1_addTask 114 = .ok (.getfield 28, 3) := by decide +kernel
theorem dX1_addTask_117 : decode cX1_addTask 117 = .ok (.dup, 1) := by decide +kernel
theorem dX1_addTask_118 : decode cX1_addTask 118 = .ok (.getfield 71, 3) := by decide +kernel
theorem dX1_addTask_121 : decode cX1_addTask 121 = .ok (.iconst 1, 1) := by decide +kernel
theorem dX1_addTask_122 : decode cX1_addTask 122 = .ok (.iadd, 1) := by decide +kernel
theorem dX1_addTask_123 : decode cX1_addTask 123 = .ok (.putfield 71, 3) := by decide +kernel
theorem dX1_addTask_126 : decode cX1_addTask 126 = .ok (.iload 5, 2) := by decide +kernel
theorem dX1_addTask_128 : decode cX1_addTask 128 = .ok (.ireturn, 1) := by decide +kernel
def vc_X1_addTask (Q : Int32 → Mem → Prop) (γ : Mem) (x1 : Int32) (x2 : Int32) (x3 : Int32) (x4 : Int32) : Prop :=
  vc_X7_within (fun r1 => ((r1 = 0) → (Q (-1000001) γ)) ∧ ((¬ r1 = 0) → (vc_X7_within (fun r3 => ((r3 = 0) → (Q (-1000001) γ)) ∧ ((¬ r3 = 0) → (vc_X7_within (fun r5 => ((r5 = 0) → (Q (-1000001) γ)) ∧ ((¬ r5 = 0) → (vc_X7_within (fun r7 => ((¬ r7 = 0) → ((((γ 12 0) < 8) → (∀ v10 : Int32, v10 = (γ 12 0) → (vp_in v10 8 ∧ (∀ γ12 : Mem, γ12 = up γ 13 v10.toNatClampNeg x1 → ((∀ γ13 : Mem, γ13 = up γ12 14 v10.toNatClampNeg x2 → ((∀ γ14 : Mem, γ14 = up γ13 15 v10.toNatClampNeg x3 → ((∀ γ15 : Mem, γ15 = up γ14 16 v10.toNatClampNeg x4 → (∀ γ16 : Mem, γ16 = up γ15 12 0 ((γ15 12 0) + 1) → (Q v10 γ16)))))))))))) ∧ ((¬ (γ 12 0) < 8) → (Q (-1000003) γ)))) ∧ ((r7 = 0) → (Q (-1000001) γ))) x4 0 2))) x3 0 999))) x2 0 999))) x1 1 3
set_option maxHeartbeats 8000000 in
set_option maxRecDepth 100000 in
theorem m_X1_addTask (l : Launch) (G : GG) (aG : Nat) (γ : Mem) (x1 : Int32) (x2 : Int32) (x3 : Int32) (x4 : Int32) (Q : Int32 → Mem → Prop) (h : vc_X1_addTask Q γ x1 x2 x3 x4) : CtI l yX1_addTask cX1_addTask 6 (some .int) { frames := 1, cells := 0, slots := 0, locals := 22 } [.ref (aG + 0), .int x1, .int x2, .int x3, .int x4] G (fun H => rg G LG aG γ H) (Q) (fun u H => rg G LG aG u H) (RA aG 22) := by
  unfold CtI
  refine met_start (y := yX1_addTask) (maxL := 6) (av := [.ref (aG + 0), .int x1, .int x2, .int x3, .int x4]) (G := G) (P := fun H => rg G LG aG γ H) (by decide) rfl (Nat.le_of_ble_eq_true rfl) (fun p e s m below meth c ls C hr hP hK hl => ?_)
  obtain ⟨hx, hb, hml, hown, hts, hlocks⟩ := id C
  have hG : rg G LG aG γ s.heap := hP
  have hS : va_S (RA aG 22) s.heap s.heap [] := va_S.rf
  have hl : lv_has ls 6 [(0, .ref (aG + 0)), (1, .int x1), (2, .int x2), (3, .int x3), (4, .int x4)] := hl
  unfold vc_X1_addTask at h
  refine lv_iload_n hx hb dX1_addTask_0 rfl (lv_at hl 1 rfl) ?_
  refine lv_iconst (v := 1) hx hb dX1_addTask_1 (by decide) ?_
  refine lv_iconst (v := 3) hx hb dX1_addTask_2 (by decide) ?_
  refine g_nI C hK hl.1 (m_X7_within l G x1 1 3 _ h) mw_X7_within ms_X7_within nl_X1_63 rfl ⟨rfl, rfl, Nat.le_of_ble_eq_true rfl, Nat.le_of_ble_eq_true rfl⟩ ⟨Nat.zero_le _, Nat.zero_le _⟩ trivial hS (fun _ h => h.elim) rfl (Nat.le_of_ble_eq_true rfl) dX1_addTask_3 (fun r1 u H locs h hu _ hq hS => ?_)
  have hG := hG.past hq (fun _ _ h => h)
  refine lv_if_eq (tgt := 41) hx hb dX1_addTask_6 (by decide) (fun c2 => ?_) (fun c2 => ?_)
  · replace h := h.1 c2
    refine g_ldc C kc_X1_78 dX1_addTask_41 ?_
    exact g_iret (post := Q) (P' := fun u H => rg G LG aG u H) (r := (-1000001)) (u := γ) C hr hK hS h hG dX1_addTask_43
  · replace h := h.2 c2
    refine lv_iload_n hx hb dX1_addTask_9 rfl (lv_at hl 2 rfl) ?_
    refine lv_iconst (v := 0) hx hb dX1_addTask_10 (by decide) ?_
    refine lv_sipush (v := 999) hx hb dX1_addTask_11 (by decide) ?_
    refine g_nI C hK hl.1 (m_X7_within l G x2 0 999 _ h) mw_X7_within ms_X7_within nl_X1_63 rfl ⟨rfl, rfl, Nat.le_of_ble_eq_true rfl, Nat.le_of_ble_eq_true rfl⟩ ⟨Nat.zero_le _, Nat.zero_le _⟩ trivial hS (fun _ h => h.elim) rfl (Nat.le_of_ble_eq_true rfl) dX1_addTask_14 (fun r3 u H locs h hu _ hq hS => ?_)
    have hG := hG.past hq (fun _ _ h => h)
    refine lv_if_eq (tgt := 41) hx hb dX1_addTask_17 (by decide) (fun c4 => ?_) (fun c4 => ?_)
    · replace h := h.1 c4
      refine g_ldc C kc_X1_78 dX1_addTask_41 ?_
      exact g_iret (post := Q) (P' := fun u H => rg G LG aG u H) (r := (-1000001)) (u := γ) C hr hK hS h hG dX1_addTask_43
    · replace h := h.2 c4
      refine lv_iload_n hx hb dX1_addTask_20 rfl (lv_at hl 3 rfl) ?_
      refine lv_iconst (v := 0) hx hb dX1_addTask_21 (by decide) ?_
      refine lv_sipush (v := 999) hx hb dX1_addTask_22 (by decide) ?_
      refine g_nI C hK hl.1 (m_X7_within l G x3 0 999 _ h) mw_X7_within ms_X7_within nl_X1_63 rfl ⟨rfl, rfl, Nat.le_of_ble_eq_true rfl, Nat.le_of_ble_eq_true rfl⟩ ⟨Nat.zero_le _, Nat.zero_le _⟩ trivial hS (fun _ h => h.elim) rfl (Nat.le_of_ble_eq_true rfl) dX1_addTask_25 (fun r5 u H locs h hu _ hq hS => ?_)
      have hG := hG.past hq (fun _ _ h => h)
      refine lv_if_eq (tgt := 41) hx hb dX1_addTask_28 (by decide) (fun c6 => ?_) (fun c6 => ?_)
      · replace h := h.1 c6
        refine g_ldc C kc_X1_78 dX1_addTask_41 ?_
        exact g_iret (post := Q) (P' := fun u H => rg G LG aG u H) (r := (-1000001)) (u := γ) C hr hK hS h hG dX1_addTask_43
      · replace h := h.2 c6
        refine lv_iload hx hb dX1_addTask_31 (lv_at hl 4 rfl) ?_
        refine lv_iconst (v := 0) hx hb dX1_addTask_33 (by decide) ?_
        refine lv_iconst (v := 2) hx hb dX1_addTask_34 (by decide) ?_
        refine g_nI C hK hl.1 (m_X7_within l G x4 0 2 _ h) mw_X7_within ms_X7_within nl_X1_63 rfl ⟨rfl, rfl, Nat.le_of_ble_eq_true rfl, Nat.le_of_ble_eq_true rfl⟩ ⟨Nat.zero_le _, Nat.zero_le _⟩ trivial hS (fun _ h => h.elim) rfl (Nat.le_of_ble_eq_true rfl) dX1_addTask_35 (fun r7 u H locs h hu _ hq hS => ?_)
        have hG := hG.past hq (fun _ _ h => h)
        refine lv_if_ne (tgt := 44) hx hb dX1_addTask_38 (by decide) (fun c8 => ?_) (fun c8 => ?_)
        · replace h := h.1 c8
          refine lv_aload_n hx hb dX1_addTask_44 rfl (lv_at hl 0 rfl) ?_
          refine g_getR (a := aG) (k := 0) (o := 12) C hK hG fl_X1_28 rfl rfl dX1_addTask_45 ?_
          refine g_getI (a := aG) (k := 12) C hK hG fl_X1_71 rfl rfl dX1_addTask_48 ?_
          refine lv_bipush (v := 8) hx hb dX1_addTask_51 (by decide) ?_
          refine lv_icmp_lt (tgt := 59) hx hb dX1_addTask_53 (by decide) (fun c9 => ?_) (fun c9 => ?_)
          · replace h := h.1 c9
            refine lv_aload_n hx hb dX1_addTask_59 rfl (lv_at hl 0 rfl) ?_
            refine g_getR (a := aG) (k := 0) (o := 12) C hK hG fl_X1_28 rfl rfl dX1_addTask_60 ?_
            refine g_getI (a := aG) (k := 12) C hK hG fl_X1_71 rfl rfl dX1_addTask_63 ?_
            refine lv_topi (fun v10 ev10 => ?_)
            specialize h v10 ev10
            refine lv_istore (lv' := [(5, .int v10), (0, .ref (aG + 0)), (1, .int x1), (2, .int x2), (3, .int x3), (4, .int x4)]) hx hb dX1_addTask_66 hl (by decide) rfl (fun ls hl => ?_)
            refine lv_aload_n hx hb dX1_addTask_68 rfl (lv_at hl 1 rfl) ?_
            refine g_getR (a := aG) (k := 0) (o := 12) C hK hG fl_X1_28 rfl rfl dX1_addTask_69 ?_
            refine g_getR (a := aG) (k := 12) (o := 13) C hK hG fl_X1_90 rfl rfl dX1_addTask_72 ?_
            refine lv_iload hx hb dX1_addTask_75 (lv_at hl 0 rfl) ?_
            refine lv_iload_n hx hb dX1_addTask_77 rfl (lv_at hl 2 rfl) ?_
            obtain ⟨b11, h⟩ := h
            refine g_ast (a := aG) (k := 13) (n := 8) C hK hG hS rfl b11 (RA_in (by decide)) dX1_addTask_78 (fun γ12 H locs eγ12 hG hS hq => ?_)
            specialize h γ12 eγ12
            refine lv_aload_n hx hb dX1_addTask_79 rfl (lv_at hl 1 rfl) ?_
            refine g_getR (a := aG) (k := 0) (o := 12) C hK hG fl_X1_28 rfl rfl dX1_addTask_80 ?_
            refine g_getR (a := aG) (k := 12) (o := 14) C hK hG fl_X1_93 rfl rfl dX1_addTask_83 ?_
            refine lv_iload hx hb dX1_addTask_86 (lv_at hl 0 rfl) ?_
            refine lv_iload_n hx hb dX1_addTask_88 rfl (lv_at hl 3 rfl) ?_
            refine g_ast (a := aG) (k := 14) (n := 8) C hK hG hS rfl b11 (RA_in (by decide)) dX1_addTask_89 (fun γ13 H locs eγ13 hG hS hq => ?_)
            specialize h γ13 eγ13
            refine lv_aload_n hx hb dX1_addTask_90 rfl (lv_at hl 1 rfl) ?_
            refine g_getR (a := aG) (k := 0) (o := 12) C hK hG fl_X1_28 rfl rfl dX1_addTask_91 ?_
            refine g_getR (a := aG) (k := 12) (o := 15) C hK hG fl_X1_96 rfl rfl dX1_addTask_94 ?_
            refine lv_iload hx hb dX1_addTask_97 (lv_at hl 0 rfl) ?_
            refine lv_iload_n hx hb dX1_addTask_99 rfl (lv_at hl 4 rfl) ?_
            refine g_ast (a := aG) (k := 15) (n := 8) C hK hG hS rfl b11 (RA_in (by decide)) dX1_addTask_100 (fun γ14 H locs eγ14 hG hS hq => ?_)
            specialize h γ14 eγ14
            refine lv_aload_n hx hb dX1_addTask_101 rfl (lv_at hl 1 rfl) ?_
            refine g_getR (a := aG) (k := 0) (o := 12) C hK hG fl_X1_28 rfl rfl dX1_addTask_102 ?_
            refine g_getR (a := aG) (k := 12) (o := 16) C hK hG fl_X1_99 rfl rfl dX1_addTask_105 ?_
            refine lv_iload hx hb dX1_addTask_108 (lv_at hl 0 rfl) ?_
            refine lv_iload hx hb dX1_addTask_110 (lv_at hl 5 rfl) ?_
            refine g_ast (a := aG) (k := 16) (n := 8) C hK hG hS rfl b11 (RA_in (by decide)) dX1_addTask_112 (fun γ15 H locs eγ15 hG hS hq => ?_)
            specialize h γ15 eγ15
            refine lv_aload_n hx hb dX1_addTask_113 rfl (lv_at hl 1 rfl) ?_
            refine g_getR (a := aG) (k := 0) (o := 12) C hK hG fl_X1_28 rfl rfl dX1_addTask_114 ?_
            refine lv_dup hx hb dX1_addTask_117 rfl ?_
            refine g_getI (a := aG) (k := 12) C hK hG fl_X1_71 rfl rfl dX1_addTask_118 ?_
            refine lv_iconst (v := 1) hx hb dX1_addTask_121 (by decide) ?_
            refine lv_iadd hx hb dX1_addTask_122 ?_
            refine g_put (a := aG) (k := 12) C hK hG hS fl_X1_71 fp_X6_0 rfl rfl (by rfl) (by rfl) (RA_in (by decide)) dX1_addTask_123 (fun γ16 H locs eγ16 hG hS hq => ?_)
            specialize h γ16 eγ16
            refine lv_iload hx hb dX1_addTask_126 (lv_at hl 0 rfl) ?_
            exact g_iret (post := Q) (P' := fun u H => rg G LG aG u H) (r := v10) (u := γ16) C hr hK hS h hG dX1_addTask_128
          · replace h := h.2 c9
            refine g_ldc C kc_X1_73 dX1_addTask_56 ?_
            exact g_iret (post := Q) (P' := fun u H => rg G LG aG u H) (r := (-1000003)) (u := γ) C hr hK hS h hG dX1_addTask_58
        · replace h := h.2 c8
          refine g_ldc C kc_X1_78 dX1_addTask_41 ?_
          exact g_iret (post := Q) (P' := fun u H => rg G LG aG u H) (r := (-1000001)) (u := γ) C hr hK hS h hG dX1_addTask_43
theorem dX1_layContract_0 : decode cX1_layContract 0 = .ok (.iload_n 1, 1) := by decide +kernel
theorem dX1_layContract_1 : decode cX1_layContract 1 = .ok (.iconst 0, 1) := by decide +kernel
theorem dX1_layContract_2 : decode cX1_layContract 2 = .ok (.sipush 999, 3) := by decide +kernel
theorem dX1_layContract_5 : decode cX1_layContract 5 = .ok (.invokestatic 63, 3) := by decide +kernel
theorem dX1_layContract_8 : decode cX1_layContract 8 = .ok (.ifCond .eq 13, 3) := by decide +kernel
theorem dX1_layContract_11 : decode cX1_layContract 11 = .ok (.iload_n 2, 1) := by decide +kernel
theorem dX1_layContract_12 : decode cX1_layContract 12 = .ok (.iconst 1, 1) := by decide +kernel
theorem dX1_layContract_13 : decode cX1_layContract 13 = .ok (.bipush 20, 2) := by decide +kernel
theorem dX1_layContract_15 : decode cX1_layContract 15 = .ok (.invokestatic 63, 3) := by decide +kernel
theorem dX1_layContract_18 : decode cX1_layContract 18 = .ok (.ifCond .ne 6, 3) := by decide +kernel
theorem dX1_layContract_21 : decode cX1_layContract 21 = .ok (.ldc 78, 2) := by decide +kernel
theorem dX1_layContract_23 : decode cX1_layContract 23 = .ok (.ireturn, 1) := by decide +kernel
theorem dX1_layContract_24 : decode cX1_layContract 24 = .ok (.aload_n 0, 1) := by decide +kernel
theorem dX1_layContract_25 : decode cX1_layContract 25 = .ok (.getfield 35, 3) := by decide +kernel
theorem dX1_layContract_28 : decode cX1_layContract 28 = .ok (.getfield 72, 3) := by decide +kernel
theorem dX1_layContract_31 : decode cX1_layContract 31 = .ok (.bipush 6, 2) := by decide +kernel
theorem dX1_layContract_33 : decode cX1_layContract 33 = .ok (.if_icmp .lt 6, 3) := by decide +kernel
theorem dX1_layContract_36 : decode cX1_layContract 36 = .ok (.ldc 73, 2) := by decide +kernel
theorem dX1_layContract_38 : decode cX1_layContract 38 = .ok (.ireturn, 1) := by decide +kernel
theorem dX1_layContract_39 : decode cX1_layContract 39 = .ok (.aload_n 0, 1) := by decide +kernel
theorem dX1_layContract_40 : decode cX1_layContract 40 = .ok (.getfield 35, 3) := by decide +kernel
theorem dX1_layContract_43 : decode cX1_layContract 43 = .ok (.getfield 72, 3) := by decide +kernel
theorem dX1_layContract_46 : decode cX1_layContract 46 = .ok (.istore_n 3, 1) := by decide +kernel
theorem dX1_layContract_47 : decode cX1_layContract 47 = .ok (.aload_n 0, 1) := by decide +kernel
theorem dX1_layContract_48 : decode cX1_layContract 48 = .ok (.getfield 35, 3) := by decide +kernel
theorem dX1_layContract_51 : decode cX1_layContract 51 = .ok (.getfield 102, 3) := by decide +kernel
theorem dX1_layContract_54 : decode cX1_layContract 54 = .ok (.iload_n 3, 1) := by decide +kernel
theorem dX1_layContract_55 : decode cX1_layContract 55 = .ok (.iload_n 1, 1) := by decide +kernel
theorem dX1_layContract_56 : decode cX1_layContract 56 = .ok (.iastore, 1) := by decide +kernel
theorem dX1_layContract_57 : decode cX1_layContract 57 = .ok (.aload_n 0, 1) := by decide +kernel
theorem dX1_layContract_58 : decode cX1_layContract 58 = .ok (.getfield 35, 3) := by decide +kernel
theorem dX1_layContract_61 : decode cX1_layContract 61 = .ok (.getfield 105, 3) := by decide +kernel
theorem dX1_layContract_64 : decode cX1_layContract 64 = .ok (.iload_n 3, 1) := by decide +kernel
theorem dX1_layContract_65 : decode cX1_layContract 65 = .ok (.iload_n 2, 1) := by decide +kernel
theorem dX1_layContract_66 : decode cX1_layContract 66 = .ok (.iastore, 1) := by decide +kernel
theorem dX1_layContract_67 : decode cX1_layContract 67 = .ok (.aload_n 0, 1) := by decide +kernel
theorem dX1_layContract_68 : decode cX1_layContract 68 = .ok (.getfield 35, 3) := by decide +kernel
theorem dX1_layContract_71 : decode cX1_layContract 71 = .ok (.dup, 1) := by decide +kernel
theorem dX1_layContract_72 : decode cX1_layContract 72 = .ok (.getfield 72, 3) := by decide +kernel
theorem dX1_layContract_75 : decode cX1_layContract 75 = .ok (.iconst 1, 1) := by decide +kernel
theorem dX1_layContract_76 : decode cX1_layContract 76 = .ok (.iadd, 1) := by decide +kernel
theorem dX1_layContract_77 : decode cX1_layContract 77 = .ok (.putfield 72, 3) := by decide +kernel
theorem dX1_layContract_80 : decode cX1_layContract 80 = .ok (.iload_n 3, 1) := by decide +kernel
theorem dX1_layContract_81 : decode cX1_layContract 81 = .ok (.ireturn, 1) := by decide +kernel
def vc_X1_layContract (Q : Int32 → Mem → Prop) (γ : Mem) (x1 : Int32) (x2 : Int32) : Prop :=
  vc_X7_within (fun r1 => ((r1 = 0) → (Q (-1000001) γ)) ∧ ((¬ r1 = 0) → (vc_X7_within (fun r3 => ((¬ r3 = 0) → ((((γ 18 0) < 6) → (∀ v6 : Int32, v6 = (γ 18 0) → (vp_in v6 6 ∧ (∀ γ8 : Mem, γ8 = up γ 19 v6.toNatClampNeg x1 → ((∀ γ9 : Mem, γ9 = up γ8 20 v6.toNatClampNeg x2 → (∀ γ10 : Mem, γ10 = up γ9 18 0 ((γ9 18 0) + 1) → (Q v6 γ10)))))))) ∧ ((¬ (γ 18 0) < 6) → (Q (-1000003) γ)))) ∧ ((r3 = 0) → (Q (-1000001) γ))) x2 1 20))) x1 0 999
set_option maxHeartbeats 8000000 in
set_option maxRecDepth 100000 in
theorem m_X1_layContract (l : Launch) (G : GG) (aG : Nat) (γ : Mem) (x1 : Int32) (x2 : Int32) (Q : Int32 → Mem → Prop) (h : vc_X1_layContract Q γ x1 x2) : CtI l yX1_layContract cX1_layContract 4 (some .int) { frames := 1, cells := 0, slots := 0, locals := 22 } [.ref (aG + 0), .int x1, .int x2] G (fun H => rg G LG aG γ H) (Q) (fun u H => rg G LG aG u H) (RA aG 22) := by
  unfold CtI
  refine met_start (y := yX1_layContract) (maxL := 4) (av := [.ref (aG + 0), .int x1, .int x2]) (G := G) (P := fun H => rg G LG aG γ H) (by decide) rfl (Nat.le_of_ble_eq_true rfl) (fun p e s m below meth c ls C hr hP hK hl => ?_)
  obtain ⟨hx, hb, hml, hown, hts, hlocks⟩ := id C
  have hG : rg G LG aG γ s.heap := hP
  have hS : va_S (RA aG 22) s.heap s.heap [] := va_S.rf
  have hl : lv_has ls 4 [(0, .ref (aG + 0)), (1, .int x1), (2, .int x2)] := hl
  unfold vc_X1_layContract at h
  refine lv_iload_n hx hb dX1_layContract_0 rfl (lv_at hl 1 rfl) ?_
  refine lv_iconst (v := 0) hx hb dX1_layContract_1 (by decide) ?_
  refine lv_sipush (v := 999) hx hb dX1_layContract_2 (by decide) ?_
  refine g_nI C hK hl.1 (m_X7_within l G x1 0 999 _ h) mw_X7_within ms_X7_within nl_X1_63 rfl ⟨rfl, rfl, Nat.le_of_ble_eq_true rfl, Nat.le_of_ble_eq_true rfl⟩ ⟨Nat.zero_le _, Nat.zero_le _⟩ trivial hS (fun _ h => h.elim) rfl (Nat.le_of_ble_eq_true rfl) dX1_layContract_5 (fun r1 u H locs h hu _ hq hS => ?_)
  have hG := hG.past hq (fun _ _ h => h)
  refine lv_if_eq (tgt := 21) hx hb dX1_layContract_8 (by decide) (fun c2 => ?_) (fun c2 => ?_)
  · replace h := h.1 c2
    refine g_ldc C kc_X1_78 dX1_layContract_21 ?_
    exact g_iret (post := Q) (P' := fun u H => rg G LG aG u H) (r := (-1000001)) (u := γ) C hr hK hS h hG dX1_layContract_23
  · replace h := h.2 c2
    refine lv_iload_n hx hb dX1_layContract_11 rfl (lv_at hl 2 rfl) ?_
    refine lv_iconst (v := 1) hx hb dX1_layContract_12 (by decide) ?_
    refine lv_bipush (v := 20) hx hb dX1_layContract_13 (by decide) ?_
    refine g_nI C hK hl.1 (m_X7_within l G x2 1 20 _ h) mw_X7_within ms_X7_within nl_X1_63 rfl ⟨rfl, rfl, Nat.le_of_ble_eq_true rfl, Nat.le_of_ble_eq_true rfl⟩ ⟨Nat.zero_le _, Nat.zero_le _⟩ trivial hS (fun _ h => h.elim) rfl (Nat.le_of_ble_eq_true rfl) dX1_layContract_15 (fun r3 u H locs h hu _ hq hS => ?_)
    have hG := hG.past hq (fun _ _ h => h)
    refine lv_if_ne (tgt := 24) hx hb dX1_layContract_18 (by decide) (fun c4 => ?_) (fun c4 => ?_)
    · replace h := h.1 c4
      refine lv_aload_n hx hb dX1_layContract_24 rfl (lv_at hl 0 rfl) ?_
      refine g_getR (a := aG) (k := 0) (o := 18) C hK hG fl_X1_35 rfl rfl dX1_layContract_25 ?_
      refine g_getI (a := aG) (k := 18) C hK hG fl_X1_72 rfl rfl dX1_layContract_28 ?_
      refine lv_bipush (v := 6) hx hb dX1_layContract_31 (by decide) ?_
      refine lv_icmp_lt (tgt := 39) hx hb dX1_layContract_33 (by decide) (fun c5 => ?_) (fun c5 => ?_)
      · replace h := h.1 c5
        refine lv_aload_n hx hb dX1_layContract_39 rfl (lv_at hl 0 rfl) ?_
        refine g_getR (a := aG) (k := 0) (o := 18) C hK hG fl_X1_35 rfl rfl dX1_layContract_40 ?_
        refine g_getI (a := aG) (k := 18) C hK hG fl_X1_72 rfl rfl dX1_layContract_43 ?_
        refine lv_topi (fun v6 ev6 => ?_)
        specialize h v6 ev6
        refine lv_istore_n (lv' := [(3, .int v6), (0, .ref (aG + 0)), (1, .int x1), (2, .int x2)]) hx hb dX1_layContract_46 rfl hl (by decide) rfl (fun ls hl => ?_)
        refine lv_aload_n hx hb dX1_layContract_47 rfl (lv_at hl 1 rfl) ?_
        refine g_getR (a := aG) (k := 0) (o := 18) C hK hG fl_X1_35 rfl rfl dX1_layContract_48 ?_
        refine g_getR (a := aG) (k := 18) (o := 19) C hK hG fl_X1_102 rfl rfl dX1_layContract_51 ?_
        refine lv_iload_n hx hb dX1_layContract_54 rfl (lv_at hl 0 rfl) ?_
        refine lv_iload_n hx hb dX1_layContract_55 rfl (lv_at hl 2 rfl) ?_
        obtain ⟨b7, h⟩ := h
        refine g_ast (a := aG) (k := 19) (n := 6) C hK hG hS rfl b7 (RA_in (by decide)) dX1_layContract_56 (fun γ8 H locs eγ8 hG hS hq => ?_)
        specialize h γ8 eγ8
        refine lv_aload_n hx hb dX1_layContract_57 rfl (lv_at hl 1 rfl) ?_
        refine g_getR (a := aG) (k := 0) (o := 18) C hK hG fl_X1_35 rfl rfl dX1_layContract_58 ?_
        refine g_getR (a := aG) (k := 18) (o := 20) C hK hG fl_X1_105 rfl rfl dX1_layContract_61 ?_
        refine lv_iload_n hx hb dX1_layContract_64 rfl (lv_at hl 0 rfl) ?_
        refine lv_iload_n hx hb dX1_layContract_65 rfl (lv_at hl 3 rfl) ?_
        refine g_ast (a := aG) (k := 20) (n := 6) C hK hG hS rfl b7 (RA_in (by decide)) dX1_layContract_66 (fun γ9 H locs eγ9 hG hS hq => ?_)
        specialize h γ9 eγ9
        refine lv_aload_n hx hb dX1_layContract_67 rfl (lv_at hl 1 rfl) ?_
        refine g_getR (a := aG) (k := 0) (o := 18) C hK hG fl_X1_35 rfl rfl dX1_layContract_68 ?_
        refine lv_dup hx hb dX1_layContract_71 rfl ?_
        refine g_getI (a := aG) (k := 18) C hK hG fl_X1_72 rfl rfl dX1_layContract_72 ?_
        refine lv_iconst (v := 1) hx hb dX1_layContract_75 (by decide) ?_
        refine lv_iadd hx hb dX1_layContract_76 ?_
        refine g_put (a := aG) (k := 18) C hK hG hS fl_X1_72 fp_X0_0 rfl rfl (by rfl) (by rfl) (RA_in (by decide)) dX1_layContract_77 (fun γ10 H locs eγ10 hG hS hq => ?_)
        specialize h γ10 eγ10
        refine lv_iload_n hx hb dX1_layContract_80 rfl (lv_at hl 0 rfl) ?_
        exact g_iret (post := Q) (P' := fun u H => rg G LG aG u H) (r := v6) (u := γ10) C hr hK hS h hG dX1_layContract_81
      · replace h := h.2 c5
        refine g_ldc C kc_X1_73 dX1_layContract_36 ?_
        exact g_iret (post := Q) (P' := fun u H => rg G LG aG u H) (r := (-1000003)) (u := γ) C hr hK hS h hG dX1_layContract_38
    · replace h := h.2 c4
      refine g_ldc C kc_X1_78 dX1_layContract_21 ?_
      exact g_iret (post := Q) (P' := fun u H => rg G LG aG u H) (r := (-1000001)) (u := γ) C hr hK hS h hG dX1_layContract_23
theorem dX1_placesLeft_0 : decode cX1_placesLeft 0 = .ok (.aload_n 0, 1) := by decide +kernel
theorem dX1_placesLeft_1 : decode cX1_placesLeft 1 = .ok (.getfield 28, 3) := by decide +kernel
theorem dX1_placesLeft_4 : decode cX1_placesLeft 4 = .ok (.getfield 90, 3) := by decide +kernel
theorem dX1_placesLeft_7 : decode cX1_placesLeft 7 = .ok (.iload_n 1, 1) := by decide +kernel
theorem dX1_placesLeft_8 : decode cX1_placesLeft 8 = .ok (.iaload, 1) := by decide +kernel
theorem dX1_placesLeft_9 : decode cX1_placesLeft 9 = .ok (.aload_n 0, 1) := by decide +kernel
theorem dX1_placesLeft_10 : decode cX1_placesLeft 10 = .ok (.getfield 21, 3) := by decide +kernel
theorem dX1_placesLeft_13 : decode cX1_placesLeft 13 = .ok (.iload_n 1, 1) := by decide +kernel
theorem dX1_placesLeft_14 : decode cX1_placesLeft 14 = .ok (.invokevirtual 108, 3) := by decide +kernel
theorem dX1_placesLeft_17 : decode cX1_placesLeft 17 = .ok (.isub, 1) := by decide +kernel
theorem dX1_placesLeft_18 : decode cX1_placesLeft 18 = .ok (.ireturn, 1) := by decide +kernel
def vc_X1_placesLeft (Q : Int32 → Prop) (γ : Mem) (x1 : Int32) : Prop :=
  vp_in x1 8 ∧ (vc_X2_numberOn (fun r2 => Q ((γ 13 x1.toNatClampNeg) - r2) ) γ x1)
set_option maxHeartbeats 8000000 in
set_option maxRecDepth 100000 in
theorem m_X1_placesLeft (l : Launch) (G : GG) (aG : Nat) (γ : Mem) (x1 : Int32) (Q : Int32 → Prop) (h : vc_X1_placesLeft Q γ x1) : CtI l yX1_placesLeft cX1_placesLeft 2 (some .int) { frames := 1, cells := 0, slots := 0, locals := 23 } [.ref (aG + 0), .int x1] G (fun H => rg G LG aG γ H) (fun r (_ : Unit) => Q r) (fun _ _ => True) (fun _ => False) := by
  unfold CtI
  refine met_start (y := yX1_placesLeft) (maxL := 2) (av := [.ref (aG + 0), .int x1]) (G := G) (P := fun H => rg G LG aG γ H) (by decide) rfl (Nat.le_of_ble_eq_true rfl) (fun p e s m below meth c ls C hr hP hK hl => ?_)
  obtain ⟨hx, hb, hml, hown, hts, hlocks⟩ := id C
  have hG : rg G LG aG γ s.heap := hP
  have hS : va_S (fun _ => False) s.heap s.heap [] := va_S.rf
  have hl : lv_has ls 2 [(0, .ref (aG + 0)), (1, .int x1)] := hl
  unfold vc_X1_placesLeft at h
  refine lv_aload_n hx hb dX1_placesLeft_0 rfl (lv_at hl 0 rfl) ?_
  refine g_getR (a := aG) (k := 0) (o := 12) C hK hG fl_X1_28 rfl rfl dX1_placesLeft_1 ?_
  refine g_getR (a := aG) (k := 12) (o := 13) C hK hG fl_X1_90 rfl rfl dX1_placesLeft_4 ?_
  refine lv_iload_n hx hb dX1_placesLeft_7 rfl (lv_at hl 1 rfl) ?_
  obtain ⟨b1, h⟩ := h
  refine g_ald (a := aG) (k := 13) (n := 8) C hK hG rfl b1 dX1_placesLeft_8 ?_
  refine lv_aload_n hx hb dX1_placesLeft_9 rfl (lv_at hl 0 rfl) ?_
  refine g_getR (a := aG) (k := 0) (o := 4) C hK hG fl_X1_21 rfl rfl dX1_placesLeft_10 ?_
  refine lv_iload_n hx hb dX1_placesLeft_13 rfl (lv_at hl 1 rfl) ?_
  refine g_vI C hK hl.1 (m_X2_numberOn l G aG γ x1 _ h) mw_X2_numberOn mi_X2_numberOn ml_X1_108 rfl ⟨rfl, rfl, Nat.le_of_ble_eq_true rfl, Nat.le_of_ble_eq_true rfl⟩ ⟨Nat.zero_le _, Nat.zero_le _⟩ (g_recv (a := aG) (k := 4) hK hG rfl rfl) hG hS (fun _ h => h.elim) rfl (Nat.le_of_ble_eq_true rfl) dX1_placesLeft_14 (fun r2 u H locs h hu _ hq hS => ?_)
  have hG := hG.past hq (fun _ _ h => h)
  refine lv_isub hx hb dX1_placesLeft_17 ?_
  exact g_iret (post := fun r (_ : Unit) => Q r) (P' := fun _ _ => True) (r := ((γ 13 x1.toNatClampNeg) - r2)) (u := ()) C hr hK hS h trivial dX1_placesLeft_18
theorem dX1_canBePut_0 : decode cX1_canBePut 0 = .ok (.aload_n 0, 1) := by decide +kernel
theorem dX1_canBePut_1 : decode cX1_canBePut 1 = .ok (.getfield 21, 3) := by decide +kernel
theorem dX1_canBePut_4 : decode cX1_canBePut 4 = .ok (.getfield 112, 3) := by decide +kernel
theorem dX1_canBePut_7 : decode cX1_canBePut 7 = .ok (.iload_n 1, 1) := by decide +kernel
theorem dX1_canBePut_8 : decode cX1_canBePut 8 = .ok (.iaload, 1) := by decide +kernel
theorem dX1_canBePut_9 : decode cX1_canBePut 9 = .ok (.iload_n 2, 1) := by decide +kernel
theorem dX1_canBePut_10 : decode cX1_canBePut 10 = .ok (.if_icmp .eq 11, 3) := by decide +kernel
theorem dX1_canBePut_13 : decode cX1_canBePut 13 = .ok (.aload_n 0, 1) := by decide +kernel
theorem dX1_canBePut_14 : decode cX1_canBePut 14 = .ok (.iload_n 2, 1) := by decide +kernel
theorem dX1_canBePut_15 : decode cX1_canBePut 15 = .ok (.invokevirtual 115, 3) := by decide +kernel
theorem dX1_canBePut_18 : decode cX1_canBePut 18 = .ok (.ifCond .le 7, 3) := by decide +kernel
theorem dX1_canBePut_21 : decode cX1_canBePut 21 = .ok (.iconst 1, 1) := by decide +kernel
theorem dX1_canBePut_22 : decode cX1_canBePut 22 = .ok (.goto 4, 3) := by decide +kernel
theorem dX1_canBePut_25 : decode cX1_canBePut 25 = .ok (.iconst 0, 1) := by decide +kernel
theorem dX1_canBePut_26 : decode cX1_canBePut 26 = .ok (.istore_n 3, 1) := by decide +kernel
theorem dX1_canBePut_27 : decode cX1_canBePut 27 = .ok (.aload_n 0, 1) := by decide +kernel
theorem dX1_canBePut_28 : decode cX1_canBePut 28 = .ok (.getfield 21, 3) := by decide +kernel
theorem dX1_canBePut_31 : decode cX1_canBePut 31 = .ok (.iload_n 1, 1) := by decide +kernel
theorem dX1_canBePut_32 : decode cX1_canBePut 32 = .ok (.invokevirtual 83, 3) := by decide +kernel
theorem dX1_canBePut_35 : decode cX1_canBePut 35 = .ok (.ifCond .eq 34, 3) := by decide +kernel
theorem dX1_canBePut_38 : decode cX1_canBePut 38 = .ok (.iload_n 3, 1) := by decide +kernel
theorem dX1_canBePut_39 : decode cX1_canBePut 39 = .ok (.ifCond .eq 30, 3) := by decide +kernel
theorem dX1_canBePut_42 : decode cX1_canBePut 42 = .ok (.aload_n 0, 1) := by decide +kernel
theorem dX1_canBePut_43 : decode cX1_canBePut 43 = .ok (.getfield 12, 3) := by decide +kernel
theorem dX1_canBePut_46 : decode cX1_canBePut 46 = .ok (.iload_n 1, 1) := by decide +kernel
theorem dX1_canBePut_47 : decode cX1_canBePut 47 = .ok (.invokestatic 118, 3) := by decide +kernel
theorem dX1_canBePut_50 : decode cX1_canBePut 50 = .ok (.aload_n 0, 1) := by decide +kernel
theorem dX1_canBePut_51 : decode cX1_canBePut 51 = .ok (.getfield 28, 3) := by decide +kernel
theorem dX1_canBePut_54 : decode cX1_canBePut 54 = .ok (.getfield 93, 3) := by decide +kernel
theorem dX1_canBePut_57 : decode cX1_canBePut 57 = .ok (.iload_n 2, 1) := by decide +kernel
theorem dX1_canBePut_58 : decode cX1_canBePut 58 = .ok (.iaload, 1) := by decide +kernel
theorem dX1_canBePut_59 : decode cX1_canBePut 59 = .ok (.invokevirtual 121, 3) := by decide +kernel
theorem dX1_canBePut_62 : decode cX1_canBePut 62 = .ok (.ifCond .eq 7, 3) := by decide +kernel
theorem dX1_canBePut_65 : decode cX1_canBePut 65 = .ok (.iconst 1, 1) := by decide +kernel
theorem dX1_canBePut_66 : decode cX1_canBePut 66 = .ok (.goto 4, 3) := by decide +kernel
theorem dX1_canBePut_69 : decode cX1_canBePut 69 = .ok (.iconst 0, 1) := by decide +kernel
theorem dX1_canBePut_70 : decode cX1_canBePut 70 = .ok (.ireturn, 1) := by decide +kernel
def vb_X1_canBePut_26 (Q : Int32 → Prop) (γ : Mem) (rec : Nat → Int32 → Int32 → Int32 → Prop) (w1 : Int32) (w2 : Int32) (z0 : Int32) : Prop :=
  vc_X2_isOut (fun r5 => ((r5 = 0) → (Q 0 )) ∧ ((¬ r5 = 0) → (((z0 = 0) → (Q 0 )) ∧ ((¬ z0 = 0) → (vc_X7_playerWith (fun r8 => vp_in w2 8 ∧ (vc_X5_have (fun r10 => ((r10 = 0) → (Q 0 )) ∧ ((¬ r10 = 0) → (Q 1 ))) γ r8 (γ 14 w2.toNatClampNeg))) w1))))) γ w1
def vl_X1_canBePut (Q : Int32 → Prop) (γ : Mem) : Nat → Nat → Int32 → Int32 → Int32 → Prop
  | 0, _, _, _, _ => False
  | n + 1, 0, w1, w2, z0 => vb_X1_canBePut_26 Q γ (vl_X1_canBePut Q γ n) w1 w2 z0
  | _ + 1, _, _, _, _ => False
def vc_X1_canBePut (Q : Int32 → Prop) (γ : Mem) (x1 : Int32) (x2 : Int32) : Prop :=
  ∃ n : Nat, vp_in x1 12 ∧ ((((γ 6 x1.toNatClampNeg) = x2) → (vl_X1_canBePut Q γ n 0 x1 x2 1)) ∧ ((¬ (γ 6 x1.toNatClampNeg) = x2) → (vc_X1_placesLeft (fun r3 => ((r3 ≤ 0) → (vl_X1_canBePut Q γ n 0 x1 x2 0)) ∧ ((¬ r3 ≤ 0) → (vl_X1_canBePut Q γ n 0 x1 x2 1))) γ x2)))
set_option maxHeartbeats 8000000 in
set_option maxRecDepth 100000 in
theorem m_X1_canBePut (l : Launch) (G : GG) (aG : Nat) (γ : Mem) (x1 : Int32) (x2 : Int32) (Q : Int32 → Prop) (h : vc_X1_canBePut Q γ x1 x2) : CtI l yX1_canBePut cX1_canBePut 4 (some .boolean) { frames := 2, cells := 0, slots := 0, locals := 45 } [.ref (aG + 0), .int x1, .int x2] G (fun H => rg G LG aG γ H) (fun r (_ : Unit) => Q r) (fun _ _ => True) (fun _ => False) := by
  unfold CtI
  refine met_start (y := yX1_canBePut) (maxL := 4) (av := [.ref (aG + 0), .int x1, .int x2]) (G := G) (P := fun H => rg G LG aG γ H) (by decide) rfl (Nat.le_of_ble_eq_true rfl) (fun p e s m below meth c ls C hr hP hK hl => ?_)
  obtain ⟨hx, hb, hml, hown, hts, hlocks⟩ := id C
  have hG : rg G LG aG γ s.heap := hP
  have hS : va_S (fun _ => False) s.heap s.heap [] := va_S.rf
  have hl : lv_has ls 4 [(0, .ref (aG + 0)), (1, .int x1), (2, .int x2)] := hl
  have K : ∀ n : Nat, (∀ (w1 : Int32) (w2 : Int32) (z0 : Int32) (H : Heap) (locs : List Loc) (ls : Array Slot), rg G LG aG γ H → va_S (fun _ => False) s.heap H locs → lv_has ls 4 [(0, .ref (aG + 0)), (1, .int w1), (2, .int w2)] → vl_X1_canBePut Q γ n 0 w1 w2 z0 → W p l e { frames := 2, cells := 0, slots := 0, locals := 45 } s m [.ref (aG + 0), .int x1, .int x2].toArray below meth c H locs 0 0 (MQ below (va_Qi (fun r (_ : Unit) => Q r) (fun u t => (fun _ _ => True) u t.heap ∧ KK G t) (fun _ => False)) [.ref (aG + 0), .int x1, .int x2].toArray s 0 0 (fun _ => False)) (F0 m 26 ls [.int z0])) := by
    intro n
    induction n with
    | zero => exact fun _ _ _ _ _ _ _ _ _ h => h.elim
    | succ n ih =>
      · intro w1 w2 z0 H locs ls hG hS hl h
        replace h : vb_X1_canBePut_26 Q γ (vl_X1_canBePut Q γ n) w1 w2 z0 := h
        unfold vb_X1_canBePut_26 at h
        refine lv_istore_n (lv' := [(3, .int z0), (0, .ref (aG + 0)), (1, .int w1), (2, .int w2)]) hx hb dX1_canBePut_26 rfl hl (by decide) rfl (fun ls hl => ?_)
        refine lv_aload_n hx hb dX1_canBePut_27 rfl (lv_at hl 1 rfl) ?_
        refine g_getR (a := aG) (k := 0) (o := 4) C hK hG fl_X1_21 rfl rfl dX1_canBePut_28 ?_
        refine lv_iload_n hx hb dX1_canBePut_31 rfl (lv_at hl 2 rfl) ?_
        refine g_vI C hK hl.1 (m_X2_isOut l G aG γ w1 _ h) mw_X2_isOut mi_X2_isOut ml_X1_83 rfl ⟨rfl, rfl, Nat.le_of_ble_eq_true rfl, Nat.le_of_ble_eq_true rfl⟩ ⟨Nat.zero_le _, Nat.zero_le _⟩ (g_recv (a := aG) (k := 4) hK hG rfl rfl) hG hS (fun _ h => h.elim) rfl (Nat.le_of_ble_eq_true rfl) dX1_canBePut_32 (fun r5 u H locs h hu _ hq hS => ?_)
        have hG := hG.past hq (fun _ _ h => h)
        refine lv_if_eq (tgt := 69) hx hb dX1_canBePut_35 (by decide) (fun c6 => ?_) (fun c6 => ?_)
        · replace h := h.1 c6
          refine lv_iconst (v := 0) hx hb dX1_canBePut_69 (by decide) ?_
          exact g_zret (post := fun r (_ : Unit) => Q r) (P' := fun _ _ => True) (r := 0) (u := ()) C hr hK hS (by rfl) h trivial dX1_canBePut_70
        · replace h := h.2 c6
          refine lv_iload_n hx hb dX1_canBePut_38 rfl (lv_at hl 0 rfl) ?_
          refine lv_if_eq (tgt := 69) hx hb dX1_canBePut_39 (by decide) (fun c7 => ?_) (fun c7 => ?_)
          · replace h := h.1 c7
            refine lv_iconst (v := 0) hx hb dX1_canBePut_69 (by decide) ?_
            exact g_zret (post := fun r (_ : Unit) => Q r) (P' := fun _ _ => True) (r := 0) (u := ()) C hr hK hS (by rfl) h trivial dX1_canBePut_70
          · replace h := h.2 c7
            refine lv_aload_n hx hb dX1_canBePut_42 rfl (lv_at hl 1 rfl) ?_
            refine g_getR (a := aG) (k := 0) (o := 1) C hK hG fl_X1_12 rfl rfl dX1_canBePut_43 ?_
            refine lv_iload_n hx hb dX1_canBePut_46 rfl (lv_at hl 2 rfl) ?_
            refine g_nI C hK hl.1 (m_X7_playerWith l G w1 _ h) mw_X7_playerWith ms_X7_playerWith nl_X1_118 rfl ⟨rfl, rfl, Nat.le_of_ble_eq_true rfl, Nat.le_of_ble_eq_true rfl⟩ ⟨Nat.zero_le _, Nat.zero_le _⟩ trivial hS (fun _ h => h.elim) rfl (Nat.le_of_ble_eq_true rfl) dX1_canBePut_47 (fun r8 u H locs h hu _ hq hS => ?_)
            have hG := hG.past hq (fun _ _ h => h)
            refine lv_aload_n hx hb dX1_canBePut_50 rfl (lv_at hl 1 rfl) ?_
            refine g_getR (a := aG) (k := 0) (o := 12) C hK hG fl_X1_28 rfl rfl dX1_canBePut_51 ?_
            refine g_getR (a := aG) (k := 12) (o := 14) C hK hG fl_X1_93 rfl rfl dX1_canBePut_54 ?_
            refine lv_iload_n hx hb dX1_canBePut_57 rfl (lv_at hl 3 rfl) ?_
            obtain ⟨b9, h⟩ := h
            refine g_ald (a := aG) (k := 14) (n := 8) C hK hG rfl b9 dX1_canBePut_58 ?_
            refine g_vI C hK hl.1 (m_X5_have l G aG γ r8 (γ 14 w2.toNatClampNeg) _ h) mw_X5_have mi_X5_have ml_X1_121 rfl ⟨rfl, rfl, Nat.le_of_ble_eq_true rfl, Nat.le_of_ble_eq_true rfl⟩ ⟨Nat.zero_le _, Nat.zero_le _⟩ (g_recv (a := aG) (k := 1) hK hG rfl rfl) hG hS (fun _ h => h.elim) rfl (Nat.le_of_ble_eq_true rfl) dX1_canBePut_59 (fun r10 u H locs h hu _ hq hS => ?_)
            have hG := hG.past hq (fun _ _ h => h)
            refine lv_if_eq (tgt := 69) hx hb dX1_canBePut_62 (by decide) (fun c11 => ?_) (fun c11 => ?_)
            · replace h := h.1 c11
              refine lv_iconst (v := 0) hx hb dX1_canBePut_69 (by decide) ?_
              exact g_zret (post := fun r (_ : Unit) => Q r) (P' := fun _ _ => True) (r := 0) (u := ()) C hr hK hS (by rfl) h trivial dX1_canBePut_70
            · replace h := h.2 c11
              refine lv_iconst (v := 1) hx hb dX1_canBePut_65 (by decide) ?_
              refine lv_goto (tgt := 70) hx hb dX1_canBePut_66 (by decide) ?_
              exact g_zret (post := fun r (_ : Unit) => Q r) (P' := fun _ _ => True) (r := 1) (u := ()) C hr hK hS (by rfl) h trivial dX1_canBePut_70
  unfold vc_X1_canBePut at h
  obtain ⟨n, h⟩ := h
  refine lv_aload_n hx hb dX1_canBePut_0 rfl (lv_at hl 0 rfl) ?_
  refine g_getR (a := aG) (k := 0) (o := 4) C hK hG fl_X1_21 rfl rfl dX1_canBePut_1 ?_
  refine g_getR (a := aG) (k := 4) (o := 6) C hK hG fl_X1_112 rfl rfl dX1_canBePut_4 ?_
  refine lv_iload_n hx hb dX1_canBePut_7 rfl (lv_at hl 1 rfl) ?_
  obtain ⟨b1, h⟩ := h
  refine g_ald (a := aG) (k := 6) (n := 12) C hK hG rfl b1 dX1_canBePut_8 ?_
  refine lv_iload_n hx hb dX1_canBePut_9 rfl (lv_at hl 2 rfl) ?_
  refine lv_icmp_eq (tgt := 21) hx hb dX1_canBePut_10 (by decide) (fun c2 => ?_) (fun c2 => ?_)
  · replace h := h.1 c2
    refine lv_iconst (v := 1) hx hb dX1_canBePut_21 (by decide) ?_
    refine lv_goto (tgt := 26) hx hb dX1_canBePut_22 (by decide) ?_
    exact ((K n)) x1 x2 1 _ _ _ hG hS (lv_sub hl [0, 1, 2] rfl) h
  · replace h := h.2 c2
    refine lv_aload_n hx hb dX1_canBePut_13 rfl (lv_at hl 0 rfl) ?_
    refine lv_iload_n hx hb dX1_canBePut_14 rfl (lv_at hl 2 rfl) ?_
    refine g_vI C hK hl.1 (m_X1_placesLeft l G aG γ x2 _ h) mw_X1_placesLeft mi_X1_placesLeft ml_X1_115 rfl ⟨rfl, rfl, Nat.le_of_ble_eq_true rfl, Nat.le_of_ble_eq_true rfl⟩ ⟨Nat.zero_le _, Nat.zero_le _⟩ (g_recv (a := aG) (k := 0) hK hG rfl rfl) hG hS (fun _ h => h.elim) rfl (Nat.le_of_ble_eq_true rfl) dX1_canBePut_15 (fun r3 u H locs h hu _ hq hS => ?_)
    have hG := hG.past hq (fun _ _ h => h)
    refine lv_if_le (tgt := 25) hx hb dX1_canBePut_18 (by decide) (fun c4 => ?_) (fun c4 => ?_)
    · replace h := h.1 c4
      refine lv_iconst (v := 0) hx hb dX1_canBePut_25 (by decide) ?_
      exact ((K n)) x1 x2 0 _ _ _ hG hS (lv_sub hl [0, 1, 2] rfl) h
    · replace h := h.2 c4
      refine lv_iconst (v := 1) hx hb dX1_canBePut_21 (by decide) ?_
      refine lv_goto (tgt := 26) hx hb dX1_canBePut_22 (by decide) ?_
      exact ((K n)) x1 x2 1 _ _ _ hG hS (lv_sub hl [0, 1, 2] rfl) h
theorem dX1_putWorker_0 : decode cX1_putWorker 0 = .ok (.aload_n 0, 1) := by decide +kernel
theorem dX1_putWorker_1 : decode cX1_putWorker 1 = .ok (.iload_n 1, 1) := by decide +kernel
theorem dX1_putWorker_2 : decode cX1_putWorker 2 = .ok (.iload_n 2, 1) := by decide +kernel
theorem dX1_putWorker_3 : decode cX1_putWorker 3 = .ok (.invokevirtual 74, 3) := by decide +kernel
theorem dX1_putWorker_6 : decode cX1_putWorker 6 = .ok (.ifCond .eq 11, 3) := by decide +kernel
theorem dX1_putWorker_9 : decode cX1_putWorker 9 = .ok (.aload_n 0, 1) := by decide +kernel
theorem dX1_putWorker_10 : decode cX1_putWorker 10 = .ok (.iload_n 3, 1) := by decide +kernel
theorem dX1_putWorker_11 : decode cX1_putWorker 11 = .ok (.invokevirtual 124, 3) := by decide +kernel
theorem dX1_putWorker_14 : decode cX1_putWorker 14 = .ok (.ifCond .ne 6, 3) := by decide +kernel
theorem dX1_putWorker_17 : decode cX1_putWorker 17 = .ok (.ldc 78, 2) := by decide +kernel
theorem dX1_putWorker_19 : decode cX1_putWorker 19 = .ok (.ireturn, 1) := by decide +kernel
theorem dX1_putWorker_20 : decode cX1_putWorker 20 = .ok (.iload_n 1, 1) := by decide +kernel
theorem dX1_putWorker_21 : decode cX1_putWorker 21 = .ok (.iload_n 2, 1) := by decide +kernel
theorem dX1_putWorker_22 : decode cX1_putWorker 22 = .ok (.invokestatic 79, 3) := by decide +kernel
theorem dX1_putWorker_25 : decode cX1_putWorker 25 = .ok (.istore 4, 2) := by decide +kernel
theorem dX1_putWorker_27 : decode cX1_putWorker 27 = .ok (.aload_n 0, 1) := by decide +kernel
theorem dX1_putWorker_28 : decode cX1_putWorker 28 = .ok (.iload 4, 2) := by decide +kernel
theorem dX1_putWorker_30 : decode cX1_putWorker 30 = .ok (.iload_n 3, 1) := by decide +kernel
theorem dX1_putWorker_31 : decode cX1_putWorker 31 = .ok (.invokevirtual 127, 3) := by decide +kernel
theorem dX1_putWorker_34 : decode cX1_putWorker 34 = .ok (.ifCond .ne 6, 3) := by decide +kernel
theorem dX1_putWorker_37 : decode cX1_putWorker 37 = .ok (.ldc 86, 2) := by decide +kernel
theorem dX1_putWorker_39 : decode cX1_putWorker 39 = .ok (.ireturn, 1) := by decide +kernel
theorem dX1_putWorker_40 : decode cX1_putWorker 40 = .ok (.aload_n 0, 1) := by decide +kernel
theorem dX1_putWorker_41 : decode cX1_putWorker 41 = .ok (.getfield 12, 3) := by decide +kernel
theorem dX1_putWorker_44 : decode cX1_putWorker 44 = .ok (.iload_n 1, 1) := by decide +kernel
theorem dX1_putWorker_45 : decode cX1_putWorker 45 = .ok (.aload_n 0, 1) := by decide +kernel
theorem dX1_putWorker_46 : decode cX1_putWorker 46 = .ok (.getfield 28, 3) := by decide +kernel
theorem dX1_putWorker_49 : decode cX1_putWorker 49 = .ok (.getfield 93, 3) := by decide +kernel
theorem dX1_putWorker_52 : decode cX1_putWorker 52 = .ok (.iload_n 3, 1) := by decide +kernel
theorem dX1_putWorker_53 : decode cX1_putWorker 53 = .ok (.iaload, 1) := by decide +kernel
theorem dX1_putWorker_54 : decode cX1_putWorker 54 = .ok (.invokevirtual 130, 3) := by decide +kernel
theorem dX1_putWorker_57 : decode cX1_putWorker 57 = .ok (.aload_n 0, 1) := by decide +kernel
theorem dX1_putWorker_58 : decode cX1_putWorker 58 = .ok (.getfield 21, 3) := by decide +kernel
theorem dX1_putWorker_61 : decode cX1_putWorker 61 = .ok (.iload 4, 2) := by decide +kernel
theorem dX1_putWorker_63 : decode cX1_putWorker 63 = .ok (.iload_n 3, 1) := by decide +kernel
theorem dX1_putWorker_64 : decode cX1_putWorker 64 = .ok (.invokevirtual 134, 3) := by decide +kernel
theorem dX1_putWorker_67 : decode cX1_putWorker 67 = .ok (.aload_n 0, 1) := by decide +kernel
theorem dX1_putWorker_68 : decode cX1_putWorker 68 = .ok (.iload_n 3, 1) := by decide +kernel
theorem dX1_putWorker_69 : decode cX1_putWorker 69 = .ok (.invokevirtual 115, 3) := by decide +kernel
theorem dX1_putWorker_72 : decode cX1_putWorker 72 = .ok (.ireturn, 1) := by decide +kernel
def vc_X1_putWorker (Q : Int32 → Mem → Prop) (γ : Mem) (x1 : Int32) (x2 : Int32) (x3 : Int32) : Prop :=
  vc_X1_hasWorker (fun r1 => ((r1 = 0) → (Q (-1000001) γ)) ∧ ((¬ r1 = 0) → (vc_X1_hasTask (fun r3 => ((¬ r3 = 0) → (vc_X7_glassOf (fun r5 => vc_X1_canBePut (fun r6 => ((¬ r6 = 0) → (vp_in x3 8 ∧ (vc_X5_pay (fun γ10 => vc_X2_start (fun γ12 => vc_X1_placesLeft (fun r13 => Q r13 γ12) γ12 x3) γ10 r5 x3) γ x1 (γ 14 x3.toNatClampNeg)))) ∧ ((r6 = 0) → (Q (-1000002) γ))) γ r5 x3) x1 x2)) ∧ ((r3 = 0) → (Q (-1000001) γ))) γ x3))) γ x1 x2
set_option maxHeartbeats 8000000 in
set_option maxRecDepth 100000 in
theorem m_X1_putWorker (l : Launch) (G : GG) (aG : Nat) (γ : Mem) (x1 : Int32) (x2 : Int32) (x3 : Int32) (Q : Int32 → Mem → Prop) (h : vc_X1_putWorker Q γ x1 x2 x3) : CtI l yX1_putWorker cX1_putWorker 5 (some .int) { frames := 3, cells := 0, slots := 0, locals := 68 } [.ref (aG + 0), .int x1, .int x2, .int x3] G (fun H => rg G LG aG γ H) (Q) (fun u H => rg G LG aG u H) (RA aG 22) := by
  unfold CtI
  refine met_start (y := yX1_putWorker) (maxL := 5) (av := [.ref (aG + 0), .int x1, .int x2, .int x3]) (G := G) (P := fun H => rg G LG aG γ H) (by decide) rfl (Nat.le_of_ble_eq_true rfl) (fun p e s m below meth c ls C hr hP hK hl => ?_)
  obtain ⟨hx, hb, hml, hown, hts, hlocks⟩ := id C
  have hG : rg G LG aG γ s.heap := hP
  have hS : va_S (RA aG 22) s.heap s.heap [] := va_S.rf
  have hl : lv_has ls 5 [(0, .ref (aG + 0)), (1, .int x1), (2, .int x2), (3, .int x3)] := hl
  unfold vc_X1_putWorker at h
  refine lv_aload_n hx hb dX1_putWorker_0 rfl (lv_at hl 0 rfl) ?_
  refine lv_iload_n hx hb dX1_putWorker_1 rfl (lv_at hl 1 rfl) ?_
  refine lv_iload_n hx hb dX1_putWorker_2 rfl (lv_at hl 2 rfl) ?_
  refine g_vI C hK hl.1 (m_X1_hasWorker l G aG γ x1 x2 _ h) mw_X1_hasWorker mi_X1_hasWorker ml_X1_74 rfl ⟨rfl, rfl, Nat.le_of_ble_eq_true rfl, Nat.le_of_ble_eq_true rfl⟩ ⟨Nat.zero_le _, Nat.zero_le _⟩ (g_recv (a := aG) (k := 0) hK hG rfl rfl) hG hS (fun _ h => h.elim) rfl (Nat.le_of_ble_eq_true rfl) dX1_putWorker_3 (fun r1 u H locs h hu _ hq hS => ?_)
  have hG := hG.past hq (fun _ _ h => h)
  refine lv_if_eq (tgt := 17) hx hb dX1_putWorker_6 (by decide) (fun c2 => ?_) (fun c2 => ?_)
  · replace h := h.1 c2
    refine g_ldc C kc_X1_78 dX1_putWorker_17 ?_
    exact g_iret (post := Q) (P' := fun u H => rg G LG aG u H) (r := (-1000001)) (u := γ) C hr hK hS h hG dX1_putWorker_19
  · replace h := h.2 c2
    refine lv_aload_n hx hb dX1_putWorker_9 rfl (lv_at hl 0 rfl) ?_
    refine lv_iload_n hx hb dX1_putWorker_10 rfl (lv_at hl 3 rfl) ?_
    refine g_vI C hK hl.1 (m_X1_hasTask l G aG γ x3 _ h) mw_X1_hasTask mi_X1_hasTask ml_X1_124 rfl ⟨rfl, rfl, Nat.le_of_ble_eq_true rfl, Nat.le_of_ble_eq_true rfl⟩ ⟨Nat.zero_le _, Nat.zero_le _⟩ (g_recv (a := aG) (k := 0) hK hG rfl rfl) hG hS (fun _ h => h.elim) rfl (Nat.le_of_ble_eq_true rfl) dX1_putWorker_11 (fun r3 u H locs h hu _ hq hS => ?_)
    have hG := hG.past hq (fun _ _ h => h)
    refine lv_if_ne (tgt := 20) hx hb dX1_putWorker_14 (by decide) (fun c4 => ?_) (fun c4 => ?_)
    · replace h := h.1 c4
      refine lv_iload_n hx hb dX1_putWorker_20 rfl (lv_at hl 1 rfl) ?_
      refine lv_iload_n hx hb dX1_putWorker_21 rfl (lv_at hl 2 rfl) ?_
      refine g_nI C hK hl.1 (m_X7_glassOf l G x1 x2 _ h) mw_X7_glassOf ms_X7_glassOf nl_X1_79 rfl ⟨rfl, rfl, Nat.le_of_ble_eq_true rfl, Nat.le_of_ble_eq_true rfl⟩ ⟨Nat.zero_le _, Nat.zero_le _⟩ trivial hS (fun _ h => h.elim) rfl (Nat.le_of_ble_eq_true rfl) dX1_putWorker_22 (fun r5 u H locs h hu _ hq hS => ?_)
      have hG := hG.past hq (fun _ _ h => h)
      refine lv_istore (lv' := [(4, .int r5), (0, .ref (aG + 0)), (1, .int x1), (2, .int x2), (3, .int x3)]) hx hb dX1_putWorker_25 hl (by decide) rfl (fun ls hl => ?_)
      refine lv_aload_n hx hb dX1_putWorker_27 rfl (lv_at hl 1 rfl) ?_
      refine lv_iload hx hb dX1_putWorker_28 (lv_at hl 0 rfl) ?_
      refine lv_iload_n hx hb dX1_putWorker_30 rfl (lv_at hl 4 rfl) ?_
      refine g_vI C hK hl.1 (m_X1_canBePut l G aG γ r5 x3 _ h) mw_X1_canBePut mi_X1_canBePut ml_X1_127 rfl ⟨rfl, rfl, Nat.le_of_ble_eq_true rfl, Nat.le_of_ble_eq_true rfl⟩ ⟨Nat.zero_le _, Nat.zero_le _⟩ (g_recv (a := aG) (k := 0) hK hG rfl rfl) hG hS (fun _ h => h.elim) rfl (Nat.le_of_ble_eq_true rfl) dX1_putWorker_31 (fun r6 u H locs h hu _ hq hS => ?_)
      have hG := hG.past hq (fun _ _ h => h)
      refine lv_if_ne (tgt := 40) hx hb dX1_putWorker_34 (by decide) (fun c7 => ?_) (fun c7 => ?_)
      · replace h := h.1 c7
        refine lv_aload_n hx hb dX1_putWorker_40 rfl (lv_at hl 1 rfl) ?_
        refine g_getR (a := aG) (k := 0) (o := 1) C hK hG fl_X1_12 rfl rfl dX1_putWorker_41 ?_
        refine lv_iload_n hx hb dX1_putWorker_44 rfl (lv_at hl 2 rfl) ?_
        refine lv_aload_n hx hb dX1_putWorker_45 rfl (lv_at hl 1 rfl) ?_
        refine g_getR (a := aG) (k := 0) (o := 12) C hK hG fl_X1_28 rfl rfl dX1_putWorker_46 ?_
        refine g_getR (a := aG) (k := 12) (o := 14) C hK hG fl_X1_93 rfl rfl dX1_putWorker_49 ?_
        refine lv_iload_n hx hb dX1_putWorker_52 rfl (lv_at hl 4 rfl) ?_
        obtain ⟨b8, h⟩ := h
        refine g_ald (a := aG) (k := 14) (n := 8) C hK hG rfl b8 dX1_putWorker_53 ?_
        refine g_vV C hK hl.1 (m_X5_pay l G aG γ x1 (γ 14 x3.toNatClampNeg) _ h) mw_X5_pay mi_X5_pay ml_X1_130 rfl ⟨rfl, rfl, Nat.le_of_ble_eq_true rfl, Nat.le_of_ble_eq_true rfl⟩ ⟨Nat.zero_le _, Nat.zero_le _⟩ (g_recv (a := aG) (k := 1) hK hG rfl rfl) hG hS (fun _ h => h) rfl (Nat.le_of_ble_eq_true rfl) dX1_putWorker_54 (fun u H locs h hu _ hq hS => ?_)
        obtain ⟨γ10, rfl⟩ : ∃ z, z = u := ⟨_, rfl⟩
        have hG := hu
        refine lv_aload_n hx hb dX1_putWorker_57 rfl (lv_at hl 1 rfl) ?_
        refine g_getR (a := aG) (k := 0) (o := 4) C hK hG fl_X1_21 rfl rfl dX1_putWorker_58 ?_
        refine lv_iload hx hb dX1_putWorker_61 (lv_at hl 0 rfl) ?_
        refine lv_iload_n hx hb dX1_putWorker_63 rfl (lv_at hl 4 rfl) ?_
        refine g_vV C hK hl.1 (m_X2_start l G aG γ10 r5 x3 _ h) mw_X2_start mi_X2_start ml_X1_134 rfl ⟨rfl, rfl, Nat.le_of_ble_eq_true rfl, Nat.le_of_ble_eq_true rfl⟩ ⟨Nat.zero_le _, Nat.zero_le _⟩ (g_recv (a := aG) (k := 4) hK hG rfl rfl) hG hS (fun _ h => h) rfl (Nat.le_of_ble_eq_true rfl) dX1_putWorker_64 (fun u H locs h hu _ hq hS => ?_)
        obtain ⟨γ12, rfl⟩ : ∃ z, z = u := ⟨_, rfl⟩
        have hG := hu
        refine lv_aload_n hx hb dX1_putWorker_67 rfl (lv_at hl 1 rfl) ?_
        refine lv_iload_n hx hb dX1_putWorker_68 rfl (lv_at hl 4 rfl) ?_
        refine g_vI C hK hl.1 (m_X1_placesLeft l G aG γ12 x3 _ h) mw_X1_placesLeft mi_X1_placesLeft ml_X1_115 rfl ⟨rfl, rfl, Nat.le_of_ble_eq_true rfl, Nat.le_of_ble_eq_true rfl⟩ ⟨Nat.zero_le _, Nat.zero_le _⟩ (g_recv (a := aG) (k := 0) hK hG rfl rfl) hG hS (fun _ h => h.elim) rfl (Nat.le_of_ble_eq_true rfl) dX1_putWorker_69 (fun r13 u H locs h hu _ hq hS => ?_)
        have hG := hG.past hq (fun _ _ h => h)
        exact g_iret (post := Q) (P' := fun u H => rg G LG aG u H) (r := r13) (u := γ12) C hr hK hS h hG dX1_putWorker_72
      · replace h := h.2 c7
        refine g_ldc C kc_X1_86 dX1_putWorker_37 ?_
        exact g_iret (post := Q) (P' := fun u H => rg G LG aG u H) (r := (-1000002)) (u := γ) C hr hK hS h hG dX1_putWorker_39
    · replace h := h.2 c4
      refine g_ldc C kc_X1_78 dX1_putWorker_17 ?_
      exact g_iret (post := Q) (P' := fun u H => rg G LG aG u H) (r := (-1000001)) (u := γ) C hr hK hS h hG dX1_putWorker_19
end
section
theorem dX1_takeHome_0 : decode cX1_takeHome 0 = .ok (.aload_n 0, 1) := by decide +kernel
theorem dX1_takeHome_1 : decode cX1_takeHome 1 = .ok (.iload_n 1, 1) := by decide +kernel
theorem dX1_takeHome_2 : decode cX1_takeHome 2 = .ok (.iload_n 2, 1) := by decide +kernel
theorem dX1_takeHome_3 : decode cX1_takeHome 3 = .ok (.invokevirtual 74, 3) := by decide +kernel
theorem dX1_takeHome_6 : decode cX1_takeHome 6 = .ok (.ifCond .ne 6, 3) := by decide +kernel
theorem dX1_takeHome_9 : decode cX1_takeHome 9 = .ok (.ldc 78, 2) := by decide +kernel
theorem dX1_takeHome_11 : decode cX1_takeHome 11 = .ok (.ireturn, 1) := by decide +kernel
theorem dX1_takeHome_12 : decode cX1_takeHome 12 = .ok (.iload_n 1, 1) := by decide +kernel
theorem dX1_takeHome_13 : decode cX1_takeHome 13 = .ok (.iload_n 2, 1) := by decide +kernel
theorem dX1_takeHome_14 : decode cX1_takeHome 14 = .ok (.invokestatic 79, 3) := by decide +kernel
theorem dX1_takeHome_17 : decode cX1_takeHome 17 = .ok (.istore_n 3, 1) := by decide +kernel
theorem dX1_takeHome_18 : decode cX1_takeHome 18 = .ok (.aload_n 0, 1) := by decide +kernel
theorem dX1_takeHome_19 : decode cX1_takeHome 19 = .ok (.getfield 21, 3) := by decide +kernel
theorem dX1_takeHome_22 : decode cX1_takeHome 22 = .ok (.getfield 112, 3) := by decide +kernel
theorem dX1_takeHome_25 : decode cX1_takeHome 25 = .ok (.iload_n 3, 1) := by decide +kernel
theorem dX1_takeHome_26 : decode cX1_takeHome 26 = .ok (.iaload, 1) := by decide +kernel
theorem dX1_takeHome_27 : decode cX1_takeHome 27 = .ok (.istore 4, 2) := by decide +kernel
theorem dX1_takeHome_29 : decode cX1_takeHome 29 = .ok (.aload_n 0, 1) := by decide +kernel
theorem dX1_takeHome_30 : decode cX1_takeHome 30 = .ok (.getfield 21, 3) := by decide +kernel
theorem dX1_takeHome_33 : decode cX1_takeHome 33 = .ok (.iload_n 3, 1) := by decide +kernel
theorem dX1_takeHome_34 : decode cX1_takeHome 34 = .ok (.invokevirtual 83, 3) := by decide +kernel
theorem dX1_takeHome_37 : decode cX1_takeHome 37 = .ok (.ifCond .eq 9, 3) := by decide +kernel
theorem dX1_takeHome_40 : decode cX1_takeHome 40 = .ok (.iload 4, 2) := by decide +kernel
theorem dX1_takeHome_42 : decode cX1_takeHome 42 = .ok (.iconst (-1), 1) := by decide +kernel
theorem dX1_takeHome_43 : decode cX1_takeHome 43 = .ok (.if_icmp .ne 6, 3) := by decide +kernel
theorem dX1_takeHome_46 : decode cX1_takeHome 46 = .ok (.ldc 86, 2) := by decide +kernel
theorem dX1_takeHome_48 : decode cX1_takeHome 48 = .ok (.ireturn, 1) := by decide +kernel
theorem dX1_takeHome_49 : decode cX1_takeHome 49 = .ok (.aload_n 0, 1) := by decide +kernel
theorem dX1_takeHome_50 : decode cX1_takeHome 50 = .ok (.getfield 21, 3) := by decide +kernel
theorem dX1_takeHome_53 : decode cX1_takeHome 53 = .ok (.getfield 112, 3) := by decide +kernel
theorem dX1_takeHome_56 : decode cX1_takeHome 56 = .ok (.iload_n 3, 1) := by decide +kernel
theorem dX1_takeHome_57 : decode cX1_takeHome 57 = .ok (.iconst (-1), 1) := by decide +kernel
theorem dX1_takeHome_58 : decode cX1_takeHome 58 = .ok (.iastore, 1) := by decide +kernel
theorem dX1_takeHome_59 : decode cX1_takeHome 59 = .ok (.iload 4, 2) := by decide +kernel
theorem dX1_takeHome_61 : decode cX1_takeHome 61 = .ok (.ireturn, 1) := by decide +kernel
def vc_X1_takeHome (Q : Int32 → Mem → Prop) (γ : Mem) (x1 : Int32) (x2 : Int32) : Prop :=
  vc_X1_hasWorker (fun r1 => ((¬ r1 = 0) → (vc_X7_glassOf (fun r3 => vp_in r3 12 ∧ (∀ v5 : Int32, v5 = (γ 6 r3.toNatClampNeg) → (vc_X2_isOut (fun r6 => ((r6 = 0) → (Q (-1000002) γ)) ∧ ((¬ r6 = 0) → (((¬ v5 = (-1)) → ((∀ γ9 : Mem, γ9 = up γ 6 r3.toNatClampNeg (-1) → (Q v5 γ9)))) ∧ ((v5 = (-1)) → (Q (-1000002) γ))))) γ r3))) x1 x2)) ∧ ((r1 = 0) → (Q (-1000001) γ))) γ x1 x2
set_option maxHeartbeats 8000000 in
set_option maxRecDepth 100000 in
theorem m_X1_takeHome (l : Launch) (G : GG) (aG : Nat) (γ : Mem) (x1 : Int32) (x2 : Int32) (Q : Int32 → Mem → Prop) (h : vc_X1_takeHome Q γ x1 x2) : CtI l yX1_takeHome cX1_takeHome 5 (some .int) { frames := 3, cells := 0, slots := 0, locals := 65 } [.ref (aG + 0), .int x1, .int x2] G (fun H => rg G LG aG γ H) (Q) (fun u H => rg G LG aG u H) (RA aG 22) := by
  unfold CtI
  refine met_start (y := yX1_takeHome) (maxL := 5) (av := [.ref (aG + 0), .int x1, .int x2]) (G := G) (P := fun H => rg G LG aG γ H) (by decide) rfl (Nat.le_of_ble_eq_true rfl) (fun p e s m below meth c ls C hr hP hK hl => ?_)
  obtain ⟨hx, hb, hml, hown, hts, hlocks⟩ := id C
  have hG : rg G LG aG γ s.heap := hP
  have hS : va_S (RA aG 22) s.heap s.heap [] := va_S.rf
  have hl : lv_has ls 5 [(0, .ref (aG + 0)), (1, .int x1), (2, .int x2)] := hl
  unfold vc_X1_takeHome at h
  refine lv_aload_n hx hb dX1_takeHome_0 rfl (lv_at hl 0 rfl) ?_
  refine lv_iload_n hx hb dX1_takeHome_1 rfl (lv_at hl 1 rfl) ?_
  refine lv_iload_n hx hb dX1_takeHome_2 rfl (lv_at hl 2 rfl) ?_
  refine g_vI C hK hl.1 (m_X1_hasWorker l G aG γ x1 x2 _ h) mw_X1_hasWorker mi_X1_hasWorker ml_X1_74 rfl ⟨rfl, rfl, Nat.le_of_ble_eq_true rfl, Nat.le_of_ble_eq_true rfl⟩ ⟨Nat.zero_le _, Nat.zero_le _⟩ (g_recv (a := aG) (k := 0) hK hG rfl rfl) hG hS (fun _ h => h.elim) rfl (Nat.le_of_ble_eq_true rfl) dX1_takeHome_3 (fun r1 u H locs h hu _ hq hS => ?_)
  have hG := hG.past hq (fun _ _ h => h)
  refine lv_if_ne (tgt := 12) hx hb dX1_takeHome_6 (by decide) (fun c2 => ?_) (fun c2 => ?_)
  · replace h := h.1 c2
    refine lv_iload_n hx hb dX1_takeHome_12 rfl (lv_at hl 1 rfl) ?_
    refine lv_iload_n hx hb dX1_takeHome_13 rfl (lv_at hl 2 rfl) ?_
    refine g_nI C hK hl.1 (m_X7_glassOf l G x1 x2 _ h) mw_X7_glassOf ms_X7_glassOf nl_X1_79 rfl ⟨rfl, rfl, Nat.le_of_ble_eq_true rfl, Nat.le_of_ble_eq_true rfl⟩ ⟨Nat.zero_le _, Nat.zero_le _⟩ trivial hS (fun _ h => h.elim) rfl (Nat.le_of_ble_eq_true rfl) dX1_takeHome_14 (fun r3 u H locs h hu _ hq hS => ?_)
    have hG := hG.past hq (fun _ _ h => h)
    refine lv_istore_n (lv' := [(3, .int r3), (0, .ref (aG + 0)), (1, .int x1), (2, .int x2)]) hx hb dX1_takeHome_17 rfl hl (by decide) rfl (fun ls hl => ?_)
    refine lv_aload_n hx hb dX1_takeHome_18 rfl (lv_at hl 1 rfl) ?_
    refine g_getR (a := aG) (k := 0) (o := 4) C hK hG fl_X1_21 rfl rfl dX1_takeHome_19 ?_
    refine g_getR (a := aG) (k := 4) (o := 6) C hK hG fl_X1_112 rfl rfl dX1_takeHome_22 ?_
    refine lv_iload_n hx hb dX1_takeHome_25 rfl (lv_at hl 0 rfl) ?_
    obtain ⟨b4, h⟩ := h
    refine g_ald (a := aG) (k := 6) (n := 12) C hK hG rfl b4 dX1_takeHome_26 ?_
    refine lv_topi (fun v5 ev5 => ?_)
    specialize h v5 ev5
    refine lv_istore (lv' := [(4, .int v5), (3, .int r3), (0, .ref (aG + 0)), (1, .int x1), (2, .int x2)]) hx hb dX1_takeHome_27 hl (by decide) rfl (fun ls hl => ?_)
    refine lv_aload_n hx hb dX1_takeHome_29 rfl (lv_at hl 2 rfl) ?_
    refine g_getR (a := aG) (k := 0) (o := 4) C hK hG fl_X1_21 rfl rfl dX1_takeHome_30 ?_
    refine lv_iload_n hx hb dX1_takeHome_33 rfl (lv_at hl 1 rfl) ?_
    refine g_vI C hK hl.1 (m_X2_isOut l G aG γ r3 _ h) mw_X2_isOut mi_X2_isOut ml_X1_83 rfl ⟨rfl, rfl, Nat.le_of_ble_eq_true rfl, Nat.le_of_ble_eq_true rfl⟩ ⟨Nat.zero_le _, Nat.zero_le _⟩ (g_recv (a := aG) (k := 4) hK hG rfl rfl) hG hS (fun _ h => h.elim) rfl (Nat.le_of_ble_eq_true rfl) dX1_takeHome_34 (fun r6 u H locs h hu _ hq hS => ?_)
    have hG := hG.past hq (fun _ _ h => h)
    refine lv_if_eq (tgt := 46) hx hb dX1_takeHome_37 (by decide) (fun c7 => ?_) (fun c7 => ?_)
    · replace h := h.1 c7
      refine g_ldc C kc_X1_86 dX1_takeHome_46 ?_
      exact g_iret (post := Q) (P' := fun u H => rg G LG aG u H) (r := (-1000002)) (u := γ) C hr hK hS h hG dX1_takeHome_48
    · replace h := h.2 c7
      refine lv_iload hx hb dX1_takeHome_40 (lv_at hl 0 rfl) ?_
      refine lv_iconst (v := (-1)) hx hb dX1_takeHome_42 (by decide) ?_
      refine lv_icmp_ne (tgt := 49) hx hb dX1_takeHome_43 (by decide) (fun c8 => ?_) (fun c8 => ?_)
      · replace h := h.1 c8
        refine lv_aload_n hx hb dX1_takeHome_49 rfl (lv_at hl 2 rfl) ?_
        refine g_getR (a := aG) (k := 0) (o := 4) C hK hG fl_X1_21 rfl rfl dX1_takeHome_50 ?_
        refine g_getR (a := aG) (k := 4) (o := 6) C hK hG fl_X1_112 rfl rfl dX1_takeHome_53 ?_
        refine lv_iload_n hx hb dX1_takeHome_56 rfl (lv_at hl 1 rfl) ?_
        refine lv_iconst (v := (-1)) hx hb dX1_takeHome_57 (by decide) ?_
        refine g_ast (a := aG) (k := 6) (n := 12) C hK hG hS rfl b4 (RA_in (by decide)) dX1_takeHome_58 (fun γ9 H locs eγ9 hG hS hq => ?_)
        specialize h γ9 eγ9
        refine lv_iload hx hb dX1_takeHome_59 (lv_at hl 0 rfl) ?_
        exact g_iret (post := Q) (P' := fun u H => rg G LG aG u H) (r := v5) (u := γ9) C hr hK hS h hG dX1_takeHome_61
      · replace h := h.2 c8
        refine g_ldc C kc_X1_86 dX1_takeHome_46 ?_
        exact g_iret (post := Q) (P' := fun u H => rg G LG aG u H) (r := (-1000002)) (u := γ) C hr hK hS h hG dX1_takeHome_48
  · replace h := h.2 c2
    refine g_ldc C kc_X1_78 dX1_takeHome_9 ?_
    exact g_iret (post := Q) (P' := fun u H => rg G LG aG u H) (r := (-1000001)) (u := γ) C hr hK hS h hG dX1_takeHome_11
theorem dX1_addIfDue_0 : decode cX1_addIfDue 0 = .ok (.aload_n 0, 1) := by decide +kernel
theorem dX1_addIfDue_1 : decode cX1_addIfDue 1 = .ok (.getfield 21, 3) := by decide +kernel
theorem dX1_addIfDue_4 : decode cX1_addIfDue 4 = .ok (.getfield 148, 3) := by decide +kernel
theorem dX1_addIfDue_7 : decode cX1_addIfDue 7 = .ok (.iload_n 1, 1) := by decide +kernel
theorem dX1_addIfDue_8 : decode cX1_addIfDue 8 = .ok (.iaload, 1) := by decide +kernel
theorem dX1_addIfDue_9 : decode cX1_addIfDue 9 = .ok (.ifCond .ne 32, 3) := by decide +kernel
theorem dX1_addIfDue_12 : decode cX1_addIfDue 12 = .ok (.aload_n 0, 1) := by decide +kernel
theorem dX1_addIfDue_13 : decode cX1_addIfDue 13 = .ok (.getfield 175, 3) := by decide +kernel
theorem dX1_addIfDue_16 : decode cX1_addIfDue 16 = .ok (.bipush 12, 2) := by decide +kernel
theorem dX1_addIfDue_18 : decode cX1_addIfDue 18 = .ok (.if_icmp .ge 23, 3) := by decide +kernel
theorem dX1_addIfDue_21 : decode cX1_addIfDue 21 = .ok (.aload_n 0, 1) := by decide +kernel
theorem dX1_addIfDue_22 : decode cX1_addIfDue 22 = .ok (.getfield 39, 3) := by decide +kernel
theorem dX1_addIfDue_25 : decode cX1_addIfDue 25 = .ok (.aload_n 0, 1) := by decide +kernel
theorem dX1_addIfDue_26 : decode cX1_addIfDue 26 = .ok (.getfield 175, 3) := by decide +kernel
theorem dX1_addIfDue_29 : decode cX1_addIfDue 29 = .ok (.iload_n 1, 1) := by decide +kernel
theorem dX1_addIfDue_30 : decode cX1_addIfDue 30 = .ok (.iastore, 1) := by decide +kernel
theorem dX1_addIfDue_31 : decode cX1_addIfDue 31 = .ok (.aload_n 0, 1) := by decide +kernel
theorem dX1_addIfDue_32 : decode cX1_addIfDue 32 = .ok (.dup, 1) := by decide +kernel
theorem dX1_addIfDue_33 : decode cX1_addIfDue 33 = .ok (.getfield 175, 3) := by decide +kernel
theorem dX1_addIfDue_36 : decode cX1_addIfDue 36 = .ok (.iconst 1, 1) := by decide +kernel
theorem dX1_addIfDue_37 : decode cX1_addIfDue 37 = .ok (.iadd, 1) := by decide +kernel
theorem dX1_addIfDue_38 : decode cX1_addIfDue 38 = .ok (.putfield 175, 3) := by decide +kernel
theorem dX1_addIfDue_41 : decode cX1_addIfDue 41 = .ok (.return_, 1) := by decide +kernel
def vc_X1_addIfDue (Q : Mem → Prop) (γ : Mem) (x1 : Int32) : Prop :=
  vp_in x1 12 ∧ (((¬ (γ 7 x1.toNatClampNeg) = 0) → (Q γ)) ∧ (((γ 7 x1.toNatClampNeg) = 0) → (((12 ≤ (γ 0 6)) → (Q γ)) ∧ ((¬ 12 ≤ (γ 0 6)) → (vp_in (γ 0 6) 12 ∧ (∀ γ5 : Mem, γ5 = up γ 21 (γ 0 6).toNatClampNeg x1 → (∀ γ6 : Mem, γ6 = up γ5 0 6 ((γ5 0 6) + 1) → (Q γ6))))))))
set_option maxHeartbeats 8000000 in
set_option maxRecDepth 100000 in
theorem m_X1_addIfDue (l : Launch) (G : GG) (aG : Nat) (γ : Mem) (x1 : Int32) (Q : Mem → Prop) (h : vc_X1_addIfDue Q γ x1) : CtV l yX1_addIfDue cX1_addIfDue 2 { frames := 0, cells := 0, slots := 0, locals := 0 } [.ref (aG + 0), .int x1] G (fun H => rg G LG aG γ H) (Q) (fun u H => rg G LG aG u H) (RA aG 22) := by
  unfold CtV
  refine met_start (y := yX1_addIfDue) (maxL := 2) (av := [.ref (aG + 0), .int x1]) (G := G) (P := fun H => rg G LG aG γ H) (by decide) rfl (Nat.le_of_ble_eq_true rfl) (fun p e s m below meth c ls C hr hP hK hl => ?_)
  obtain ⟨hx, hb, hml, hown, hts, hlocks⟩ := id C
  have hG : rg G LG aG γ s.heap := hP
  have hS : va_S (RA aG 22) s.heap s.heap [] := va_S.rf
  have hl : lv_has ls 2 [(0, .ref (aG + 0)), (1, .int x1)] := hl
  unfold vc_X1_addIfDue at h
  refine lv_aload_n hx hb dX1_addIfDue_0 rfl (lv_at hl 0 rfl) ?_
  refine g_getR (a := aG) (k := 0) (o := 4) C hK hG fl_X1_21 rfl rfl dX1_addIfDue_1 ?_
  refine g_getR (a := aG) (k := 4) (o := 7) C hK hG fl_X1_148 rfl rfl dX1_addIfDue_4 ?_
  refine lv_iload_n hx hb dX1_addIfDue_7 rfl (lv_at hl 1 rfl) ?_
  obtain ⟨b1, h⟩ := h
  refine g_ald (a := aG) (k := 7) (n := 12) C hK hG rfl b1 dX1_addIfDue_8 ?_
  refine lv_if_ne (tgt := 41) hx hb dX1_addIfDue_9 (by decide) (fun c2 => ?_) (fun c2 => ?_)
  · replace h := h.1 c2
    exact g_vret (post := Q) (P' := fun u H => rg G LG aG u H) (u := γ) C hr hK hS h hG dX1_addIfDue_41
  · replace h := h.2 c2
    refine lv_aload_n hx hb dX1_addIfDue_12 rfl (lv_at hl 0 rfl) ?_
    refine g_getI (a := aG) (k := 0) C hK hG fl_X1_175 rfl rfl dX1_addIfDue_13 ?_
    refine lv_bipush (v := 12) hx hb dX1_addIfDue_16 (by decide) ?_
    refine lv_icmp_ge (tgt := 41) hx hb dX1_addIfDue_18 (by decide) (fun c3 => ?_) (fun c3 => ?_)
    · replace h := h.1 c3
      exact g_vret (post := Q) (P' := fun u H => rg G LG aG u H) (u := γ) C hr hK hS h hG dX1_addIfDue_41
    · replace h := h.2 c3
      refine lv_aload_n hx hb dX1_addIfDue_21 rfl (lv_at hl 0 rfl) ?_
      refine g_getR (a := aG) (k := 0) (o := 21) C hK hG fl_X1_39 rfl rfl dX1_addIfDue_22 ?_
      refine lv_aload_n hx hb dX1_addIfDue_25 rfl (lv_at hl 0 rfl) ?_
      refine g_getI (a := aG) (k := 0) C hK hG fl_X1_175 rfl rfl dX1_addIfDue_26 ?_
      refine lv_iload_n hx hb dX1_addIfDue_29 rfl (lv_at hl 1 rfl) ?_
      obtain ⟨b4, h⟩ := h
      refine g_ast (a := aG) (k := 21) (n := 12) C hK hG hS rfl b4 (RA_in (by decide)) dX1_addIfDue_30 (fun γ5 H locs eγ5 hG hS hq => ?_)
      specialize h γ5 eγ5
      refine lv_aload_n hx hb dX1_addIfDue_31 rfl (lv_at hl 0 rfl) ?_
      refine lv_dup hx hb dX1_addIfDue_32 rfl ?_
      refine g_getI (a := aG) (k := 0) C hK hG fl_X1_175 rfl rfl dX1_addIfDue_33 ?_
      refine lv_iconst (v := 1) hx hb dX1_addIfDue_36 (by decide) ?_
      refine lv_iadd hx hb dX1_addIfDue_37 ?_
      refine g_put (a := aG) (k := 0) C hK hG hS fl_X1_175 fp_X1_6 rfl rfl (by rfl) (by rfl) (RA_in (by decide)) dX1_addIfDue_38 (fun γ6 H locs eγ6 hG hS hq => ?_)
      specialize h γ6 eγ6
      exact g_vret (post := Q) (P' := fun u H => rg G LG aG u H) (u := γ6) C hr hK hS h hG dX1_addIfDue_41
theorem dX1_takeEffect_0 : decode cX1_takeEffect 0 = .ok (.iload_n 1, 1) := by decide +kernel
theorem dX1_takeEffect_1 : decode cX1_takeEffect 1 = .ok (.iconst 2, 1) := by decide +kernel
theorem dX1_takeEffect_2 : decode cX1_takeEffect 2 = .ok (.if_icmp .ne 16, 3) := by decide +kernel
theorem dX1_takeEffect_5 : decode cX1_takeEffect 5 = .ok (.aload_n 0, 1) := by decide +kernel
theorem dX1_takeEffect_6 : decode cX1_takeEffect 6 = .ok (.getfield 12, 3) := by decide +kernel
theorem dX1_takeEffect_9 : decode cX1_takeEffect 9 = .ok (.getfield 154, 3) := by decide +kernel
theorem dX1_takeEffect_12 : decode cX1_takeEffect 12 = .ok (.iload_n 2, 1) := by decide +kernel
theorem dX1_takeEffect_13 : decode cX1_takeEffect 13 = .ok (.dup2, 1) := by decide +kernel
theorem dX1_takeEffect_14 : decode cX1_takeEffect 14 = .ok (.iaload, 1) := by decide +kernel
theorem dX1_takeEffect_15 : decode cX1_takeEffect 15 = .ok (.iconst 1, 1) := by decide +kernel
theorem dX1_takeEffect_16 : decode cX1_takeEffect 16 = .ok (.iadd, 1) := by decide +kernel
theorem dX1_takeEffect_17 : decode cX1_takeEffect 17 = .ok (.iastore, 1) := by decide +kernel
theorem dX1_takeEffect_18 : decode cX1_takeEffect 18 = .ok (.iconst 0, 1) := by decide +kernel
theorem dX1_takeEffect_19 : decode cX1_takeEffect 19 = .ok (.istore_n 3, 1) := by decide +kernel
theorem dX1_takeEffect_20 : decode cX1_takeEffect 20 = .ok (.iload_n 1, 1) := by decide +kernel
theorem dX1_takeEffect_21 : decode cX1_takeEffect 21 = .ok (.iconst 1, 1) := by decide +kernel
theorem dX1_takeEffect_22 : decode cX1_takeEffect 22 = .ok (.if_icmp .ne 40, 3) := by decide +kernel
theorem dX1_takeEffect_25 : decode cX1_takeEffect 25 = .ok (.iload_n 3, 1) := by decide +kernel
theorem dX1_takeEffect_26 : decode cX1_takeEffect 26 = .ok (.bipush 12, 2) := by decide +kernel
theorem dX1_takeEffect_28 : decode cX1_takeEffect 28 = .ok (.if_icmp .ge 34, 3) := by decide +kernel
theorem dX1_takeEffect_31 : decode cX1_takeEffect 31 = .ok (.aload_n 0, 1) := by decide +kernel
theorem dX1_takeEffect_32 : decode cX1_takeEffect 32 = .ok (.getfield 21, 3) := by decide +kernel
theorem dX1_takeEffect_35 : decode cX1_takeEffect 35 = .ok (.getfield 148, 3) := by decide +kernel
theorem dX1_takeEffect_38 : decode cX1_takeEffect 38 = .ok (.iload_n 3, 1) := by decide +kernel
theorem dX1_takeEffect_39 : decode cX1_takeEffect 39 = .ok (.iaload, 1) := by decide +kernel
theorem dX1_takeEffect_40 : decode cX1_takeEffect 40 = .ok (.ifCond .le 16, 3) := by decide +kernel
theorem dX1_takeEffect_43 : decode cX1_takeEffect 43 = .ok (.aload_n 0, 1) := by decide +kernel
theorem dX1_takeEffect_44 : decode cX1_takeEffect 44 = .ok (.getfield 21, 3) := by decide +kernel
theorem dX1_takeEffect_47 : decode cX1_takeEffect 47 = .ok (.iload_n 3, 1) := by decide +kernel
theorem dX1_takeEffect_48 : decode cX1_takeEffect 48 = .ok (.invokevirtual 137, 3) := by decide +kernel
theorem dX1_takeEffect_51 : decode cX1_takeEffect 51 = .ok (.aload_n 0, 1) := by decide +kernel
theorem dX1_takeEffect_52 : decode cX1_takeEffect 52 = .ok (.iload_n 3, 1) := by decide +kernel
theorem dX1_takeEffect_53 : decode cX1_takeEffect 53 = .ok (.invokevirtual 141, 3) := by decide +kernel
theorem dX1_takeEffect_56 : decode cX1_takeEffect 56 = .ok (.iinc 3 1, 3) := by decide +kernel
theorem dX1_takeEffect_59 : decode cX1_takeEffect 59 = .ok (.goto (-39), 3) := by decide +kernel
theorem dX1_takeEffect_62 : decode cX1_takeEffect 62 = .ok (.return_, 1) := by decide +kernel
def vb_X1_takeEffect_20 (Q : Mem → Prop) (rec : Nat → Mem → Int32 → Int32 → Prop) (γ : Mem) (w1 : Int32) (w3 : Int32) : Prop :=
  ((¬ w1 = 1) → (Q γ)) ∧ ((w1 = 1) → (((12 ≤ w3) → (Q γ)) ∧ ((¬ 12 ≤ w3) → (vp_in w3 12 ∧ ((((γ 7 w3.toNatClampNeg) ≤ 0) → (∀ v8 : Int32, v8 = w3 + 1 → (rec 0 γ w1 v8))) ∧ ((¬ (γ 7 w3.toNatClampNeg) ≤ 0) → (vc_X2_flipOne (fun γ10 => vc_X1_addIfDue (fun γ12 => ∀ v13 : Int32, v13 = w3 + 1 → (rec 0 γ12 w1 v13)) γ10 w3) γ w3)))))))
def vl_X1_takeEffect (Q : Mem → Prop) : Nat → Nat → Mem → Int32 → Int32 → Prop
  | 0, _, _, _, _ => False
  | n + 1, 0, γ, w1, w3 => vb_X1_takeEffect_20 Q (vl_X1_takeEffect Q n) γ w1 w3
  | _ + 1, _, _, _, _ => False
def vc_X1_takeEffect (Q : Mem → Prop) (γ : Mem) (x1 : Int32) (x2 : Int32) : Prop :=
  ∃ n : Nat, ((¬ x1 = 2) → (vl_X1_takeEffect Q n 0 γ x1 0)) ∧ ((x1 = 2) → (vp_in x2 4 ∧ ((∀ γ3 : Mem, γ3 = up γ 3 x2.toNatClampNeg ((γ 3 x2.toNatClampNeg) + 1) → (vl_X1_takeEffect Q n 0 γ3 x1 0)))))
set_option maxHeartbeats 8000000 in
set_option maxRecDepth 100000 in
theorem m_X1_takeEffect (l : Launch) (G : GG) (aG : Nat) (γ : Mem) (x1 : Int32) (x2 : Int32) (Q : Mem → Prop) (h : vc_X1_takeEffect Q γ x1 x2) : CtV l yX1_takeEffect cX1_takeEffect 4 { frames := 1, cells := 0, slots := 0, locals := 21 } [.ref (aG + 0), .int x1, .int x2] G (fun H => rg G LG aG γ H) (Q) (fun u H => rg G LG aG u H) (RA aG 22) := by
  unfold CtV
  refine met_start (y := yX1_takeEffect) (maxL := 4) (av := [.ref (aG + 0), .int x1, .int x2]) (G := G) (P := fun H => rg G LG aG γ H) (by decide) rfl (Nat.le_of_ble_eq_true rfl) (fun p e s m below meth c ls C hr hP hK hl => ?_)
  obtain ⟨hx, hb, hml, hown, hts, hlocks⟩ := id C
  have hG : rg G LG aG γ s.heap := hP
  have hS : va_S (RA aG 22) s.heap s.heap [] := va_S.rf
  have hl : lv_has ls 4 [(0, .ref (aG + 0)), (1, .int x1), (2, .int x2)] := hl
  have K : ∀ n : Nat, (∀ (γ : Mem) (w1 : Int32) (w3 : Int32) (H : Heap) (locs : List Loc) (ls : Array Slot), rg G LG aG γ H → va_S (RA aG 22) s.heap H locs → lv_has ls 4 [(0, .ref (aG + 0)), (1, .int w1), (3, .int w3)] → vl_X1_takeEffect Q n 0 γ w1 w3 → W p l e { frames := 1, cells := 0, slots := 0, locals := 21 } s m [.ref (aG + 0), .int x1, .int x2].toArray below meth c H locs 0 0 (MQ below (va_Qv (Q) (fun u t => (fun u H => rg G LG aG u H) u t.heap ∧ KK G t) (RA aG 22)) [.ref (aG + 0), .int x1, .int x2].toArray s 0 0 (RA aG 22)) (F0 m 20 ls [])) := by
    intro n
    induction n with
    | zero => exact fun _ _ _ _ _ _ _ _ _ h => h.elim
    | succ n ih =>
      · intro γ w1 w3 H locs ls hG hS hl h
        replace h : vb_X1_takeEffect_20 Q (vl_X1_takeEffect Q n) γ w1 w3 := h
        unfold vb_X1_takeEffect_20 at h
        refine lv_iload_n hx hb dX1_takeEffect_20 rfl (lv_at hl 1 rfl) ?_
        refine lv_iconst (v := 1) hx hb dX1_takeEffect_21 (by decide) ?_
        refine lv_icmp_ne (tgt := 62) hx hb dX1_takeEffect_22 (by decide) (fun c4 => ?_) (fun c4 => ?_)
        · replace h := h.1 c4
          exact g_vret (post := Q) (P' := fun u H => rg G LG aG u H) (u := γ) C hr hK hS h hG dX1_takeEffect_62
        · replace h := h.2 c4
          refine lv_iload_n hx hb dX1_takeEffect_25 rfl (lv_at hl 2 rfl) ?_
          refine lv_bipush (v := 12) hx hb dX1_takeEffect_26 (by decide) ?_
          refine lv_icmp_ge (tgt := 62) hx hb dX1_takeEffect_28 (by decide) (fun c5 => ?_) (fun c5 => ?_)
          · replace h := h.1 c5
            exact g_vret (post := Q) (P' := fun u H => rg G LG aG u H) (u := γ) C hr hK hS h hG dX1_takeEffect_62
          · replace h := h.2 c5
            refine lv_aload_n hx hb dX1_takeEffect_31 rfl (lv_at hl 0 rfl) ?_
            refine g_getR (a := aG) (k := 0) (o := 4) C hK hG fl_X1_21 rfl rfl dX1_takeEffect_32 ?_
            refine g_getR (a := aG) (k := 4) (o := 7) C hK hG fl_X1_148 rfl rfl dX1_takeEffect_35 ?_
            refine lv_iload_n hx hb dX1_takeEffect_38 rfl (lv_at hl 2 rfl) ?_
            obtain ⟨b6, h⟩ := h
            refine g_ald (a := aG) (k := 7) (n := 12) C hK hG rfl b6 dX1_takeEffect_39 ?_
            refine lv_if_le (tgt := 56) hx hb dX1_takeEffect_40 (by decide) (fun c7 => ?_) (fun c7 => ?_)
            · replace h := h.1 c7
              obtain ⟨v8, ev8⟩ : ∃ y : Int32, y = w3 + 1 := ⟨_, rfl⟩
              specialize h v8 ev8
              refine lv_iinc (v := v8) (lv' := [(3, .int v8), (0, .ref (aG + 0)), (1, .int w1)]) hx hb dX1_takeEffect_56 hl (k := 2) rfl (by rw [ev8]; rfl) (by decide) rfl (fun ls hl => ?_)
              refine lv_goto (tgt := 20) hx hb dX1_takeEffect_59 (by decide) ?_
              exact (ih) γ w1 v8 _ _ _ hG hS (lv_sub hl [1, 2, 0] rfl) h
            · replace h := h.2 c7
              refine lv_aload_n hx hb dX1_takeEffect_43 rfl (lv_at hl 0 rfl) ?_
              refine g_getR (a := aG) (k := 0) (o := 4) C hK hG fl_X1_21 rfl rfl dX1_takeEffect_44 ?_
              refine lv_iload_n hx hb dX1_takeEffect_47 rfl (lv_at hl 2 rfl) ?_
              refine g_vV C hK hl.1 (m_X2_flipOne l G aG γ w3 _ h) mw_X2_flipOne mi_X2_flipOne ml_X1_137 rfl ⟨rfl, rfl, Nat.le_of_ble_eq_true rfl, Nat.le_of_ble_eq_true rfl⟩ ⟨Nat.zero_le _, Nat.zero_le _⟩ (g_recv (a := aG) (k := 4) hK hG rfl rfl) hG hS (fun _ h => h) rfl (Nat.le_of_ble_eq_true rfl) dX1_takeEffect_48 (fun u H locs h hu _ hq hS => ?_)
              obtain ⟨γ10, rfl⟩ : ∃ z, z = u := ⟨_, rfl⟩
              have hG := hu
              refine lv_aload_n hx hb dX1_takeEffect_51 rfl (lv_at hl 0 rfl) ?_
              refine lv_iload_n hx hb dX1_takeEffect_52 rfl (lv_at hl 2 rfl) ?_
              refine g_vV C hK hl.1 (m_X1_addIfDue l G aG γ10 w3 _ h) mw_X1_addIfDue mi_X1_addIfDue ml_X1_141 rfl ⟨rfl, rfl, Nat.le_of_ble_eq_true rfl, Nat.le_of_ble_eq_true rfl⟩ ⟨Nat.zero_le _, Nat.zero_le _⟩ (g_recv (a := aG) (k := 0) hK hG rfl rfl) hG hS (fun _ h => h) rfl (Nat.le_of_ble_eq_true rfl) dX1_takeEffect_53 (fun u H locs h hu _ hq hS => ?_)
              obtain ⟨γ12, rfl⟩ : ∃ z, z = u := ⟨_, rfl⟩
              have hG := hu
              obtain ⟨v13, ev13⟩ : ∃ y : Int32, y = w3 + 1 := ⟨_, rfl⟩
              specialize h v13 ev13
              refine lv_iinc (v := v13) (lv' := [(3, .int v13), (0, .ref (aG + 0)), (1, .int w1)]) hx hb dX1_takeEffect_56 hl (k := 2) rfl (by rw [ev13]; rfl) (by decide) rfl (fun ls hl => ?_)
              refine lv_goto (tgt := 20) hx hb dX1_takeEffect_59 (by decide) ?_
              exact (ih) γ12 w1 v13 _ _ _ hG hS (lv_sub hl [1, 2, 0] rfl) h
  unfold vc_X1_takeEffect at h
  obtain ⟨n, h⟩ := h
  refine lv_iload_n hx hb dX1_takeEffect_0 rfl (lv_at hl 1 rfl) ?_
  refine lv_iconst (v := 2) hx hb dX1_takeEffect_1 (by decide) ?_
  refine lv_icmp_ne (tgt := 18) hx hb dX1_takeEffect_2 (by decide) (fun c1 => ?_) (fun c1 => ?_)
  · replace h := h.1 c1
    refine lv_iconst (v := 0) hx hb dX1_takeEffect_18 (by decide) ?_
    refine lv_istore_n (lv' := [(3, .int 0), (0, .ref (aG + 0)), (1, .int x1), (2, .int x2)]) hx hb dX1_takeEffect_19 rfl hl (by decide) rfl (fun ls hl => ?_)
    exact ((K n)) γ x1 0 _ _ _ hG hS (lv_sub hl [1, 2, 0] rfl) h
  · replace h := h.2 c1
    refine lv_aload_n hx hb dX1_takeEffect_5 rfl (lv_at hl 0 rfl) ?_
    refine g_getR (a := aG) (k := 0) (o := 1) C hK hG fl_X1_12 rfl rfl dX1_takeEffect_6 ?_
    refine g_getR (a := aG) (k := 1) (o := 3) C hK hG fl_X1_154 rfl rfl dX1_takeEffect_9 ?_
    refine lv_iload_n hx hb dX1_takeEffect_12 rfl (lv_at hl 2 rfl) ?_
    refine lv_dup2_11 hx hb dX1_takeEffect_13 rfl rfl ?_
    obtain ⟨b2, h⟩ := h
    refine g_ald (a := aG) (k := 3) (n := 4) C hK hG rfl b2 dX1_takeEffect_14 ?_
    refine lv_iconst (v := 1) hx hb dX1_takeEffect_15 (by decide) ?_
    refine lv_iadd hx hb dX1_takeEffect_16 ?_
    refine g_ast (a := aG) (k := 3) (n := 4) C hK hG hS rfl b2 (RA_in (by decide)) dX1_takeEffect_17 (fun γ3 H locs eγ3 hG hS hq => ?_)
    specialize h γ3 eγ3
    refine lv_iconst (v := 0) hx hb dX1_takeEffect_18 (by decide) ?_
    refine lv_istore_n (lv' := [(3, .int 0), (0, .ref (aG + 0)), (1, .int x1), (2, .int x2)]) hx hb dX1_takeEffect_19 rfl hl (by decide) rfl (fun ls hl => ?_)
    exact ((K n)) γ3 x1 0 _ _ _ hG hS (lv_sub hl [1, 2, 0] rfl) h
theorem dX1_finishDue_0 : decode cX1_finishDue 0 = .ok (.iconst 0, 1) := by decide +kernel
theorem dX1_finishDue_1 : decode cX1_finishDue 1 = .ok (.istore_n 1, 1) := by decide +kernel
theorem dX1_finishDue_2 : decode cX1_finishDue 2 = .ok (.iload_n 1, 1) := by decide +kernel
theorem dX1_finishDue_3 : decode cX1_finishDue 3 = .ok (.aload_n 0, 1) := by decide +kernel
theorem dX1_finishDue_4 : decode cX1_finishDue 4 = .ok (.getfield 175, 3) := by decide +kernel
theorem dX1_finishDue_7 : decode cX1_finishDue 7 = .ok (.if_icmp .ge 103, 3) := by decide +kernel
theorem dX1_finishDue_10 : decode cX1_finishDue 10 = .ok (.iload_n 1, 1) := by decide +kernel
theorem dX1_finishDue_11 : decode cX1_finishDue 11 = .ok (.bipush 12, 2) := by decide +kernel
theorem dX1_finishDue_13 : decode cX1_finishDue 13 = .ok (.if_icmp .ge 97, 3) := by decide +kernel
theorem dX1_finishDue_16 : decode cX1_finishDue 16 = .ok (.aload_n 0, 1) := by decide +kernel
theorem dX1_finishDue_17 : decode cX1_finishDue 17 = .ok (.getfield 39, 3) := by decide +kernel
theorem dX1_finishDue_20 : decode cX1_finishDue 20 = .ok (.iload_n 1, 1) := by decide +kernel
theorem dX1_finishDue_21 : decode cX1_finishDue 21 = .ok (.iaload, 1) := by decide +kernel
theorem dX1_finishDue_22 : decode cX1_finishDue 22 = .ok (.istore_n 2, 1) := by decide +kernel
theorem dX1_finishDue_23 : decode cX1_finishDue 23 = .ok (.aload_n 0, 1) := by decide +kernel
theorem dX1_finishDue_24 : decode cX1_finishDue 24 = .ok (.getfield 21, 3) := by decide +kernel
theorem dX1_finishDue_27 : decode cX1_finishDue 27 = .ok (.getfield 112, 3) := by decide +kernel
theorem dX1_finishDue_30 : decode cX1_finishDue 30 = .ok (.iload_n 2, 1) := by decide +kernel
theorem dX1_finishDue_31 : decode cX1_finishDue 31 = .ok (.iaload, 1) := by decide +kernel
theorem dX1_finishDue_32 : decode cX1_finishDue 32 = .ok (.istore_n 3, 1) := by decide +kernel
theorem dX1_finishDue_33 : decode cX1_finishDue 33 = .ok (.iinc 1 1, 3) := by decide +kernel
theorem dX1_finishDue_36 : decode cX1_finishDue 36 = .ok (.aload_n 0, 1) := by decide +kernel
theorem dX1_finishDue_37 : decode cX1_finishDue 37 = .ok (.iload_n 3, 1) := by decide +kernel
theorem dX1_finishDue_38 : decode cX1_finishDue 38 = .ok (.invokevirtual 124, 3) := by decide +kernel
theorem dX1_finishDue_41 : decode cX1_finishDue 41 = .ok (.ifCond .eq 66, 3) := by decide +kernel
theorem dX1_finishDue_44 : decode cX1_finishDue 44 = .ok (.aload_n 0, 1) := by decide +kernel
theorem dX1_finishDue_45 : decode cX1_finishDue 45 = .ok (.getfield 21, 3) := by decide +kernel
theorem dX1_finishDue_48 : decode cX1_finishDue 48 = .ok (.getfield 178, 3) := by decide +kernel
theorem dX1_finishDue_51 : decode cX1_finishDue 51 = .ok (.iload_n 2, 1) := by decide +kernel
theorem dX1_finishDue_52 : decode cX1_finishDue 52 = .ok (.dup2, 1) := by decide +kernel
theorem dX1_finishDue_53 : decode cX1_finishDue 53 = .ok (.iaload, 1) := by decide +kernel
theorem dX1_finishDue_54 : decode cX1_finishDue 54 = .ok (.iconst 1, 1) := by decide +kernel
theorem dX1_finishDue_55 : decode cX1_finishDue 55 = .ok (.iadd, 1) := by decide +kernel
theorem dX1_finishDue_56 : decode cX1_finishDue 56 = .ok (.iastore, 1) := by decide +kernel
theorem dX1_finishDue_57 : decode cX1_finishDue 57 = .ok (.aload_n 0, 1) := by decide +kernel
theorem dX1_finishDue_58 : decode cX1_finishDue 58 = .ok (.getfield 28, 3) := by decide +kernel
theorem dX1_finishDue_61 : decode cX1_finishDue 61 = .ok (.getfield 181, 3) := by decide +kernel
theorem dX1_finishDue_64 : decode cX1_finishDue 64 = .ok (.iload_n 3, 1) := by decide +kernel
theorem dX1_finishDue_65 : decode cX1_finishDue 65 = .ok (.dup2, 1) := by decide +kernel
theorem dX1_finishDue_66 : decode cX1_finishDue 66 = .ok (.iaload, 1) := by decide +kernel
theorem dX1_finishDue_67 : decode cX1_finishDue 67 = .ok (.iconst 1, 1) := by decide +kernel
theorem dX1_finishDue_68 : decode cX1_finishDue 68 = .ok (.iadd, 1) := by decide +kernel
theorem dX1_finishDue_69 : decode cX1_finishDue 69 = .ok (.iastore, 1) := by decide +kernel
theorem dX1_finishDue_70 : decode cX1_finishDue 70 = .ok (.aload_n 0, 1) := by decide +kernel
theorem dX1_finishDue_71 : decode cX1_finishDue 71 = .ok (.getfield 12, 3) := by decide +kernel
theorem dX1_finishDue_74 : decode cX1_finishDue 74 = .ok (.iload_n 2, 1) := by decide +kernel
theorem dX1_finishDue_75 : decode cX1_finishDue 75 = .ok (.invokestatic 118, 3) := by decide +kernel
theorem dX1_finishDue_78 : decode cX1_finishDue 78 = .ok (.aload_n 0, 1) := by decide +kernel
theorem dX1_finishDue_79 : decode cX1_finishDue 79 = .ok (.getfield 28, 3) := by decide +kernel
theorem dX1_finishDue_82 : decode cX1_finishDue 82 = .ok (.getfield 96, 3) := by decide +kernel
theorem dX1_finishDue_85 : decode cX1_finishDue 85 = .ok (.iload_n 3, 1) := by decide +kernel
theorem dX1_finishDue_86 : decode cX1_finishDue 86 = .ok (.iaload, 1) := by decide +kernel
theorem dX1_finishDue_87 : decode cX1_finishDue 87 = .ok (.invokevirtual 182, 3) := by decide +kernel
theorem dX1_finishDue_90 : decode cX1_finishDue 90 = .ok (.aload_n 0, 1) := by decide +kernel
theorem dX1_finishDue_91 : decode cX1_finishDue 91 = .ok (.aload_n 0, 1) := by decide +kernel
theorem dX1_finishDue_92 : decode cX1_finishDue 92 = .ok (.getfield 28, 3) := by decide +kernel
theorem dX1_finishDue_95 : decode cX1_finishDue 95 = .ok (.getfield 99, 3) := by decide +kernel
theorem dX1_finishDue_98 : decode cX1_finishDue 98 = .ok (.iload_n 3, 1) := by decide +kernel
theorem dX1_finishDue_99 : decode cX1_finishDue 99 = .ok (.iaload, 1) := by decide +kernel
theorem dX1_finishDue_100 : decode cX1_finishDue 100 = .ok (.iload_n 2, 1) := by decide +kernel
theorem dX1_finishDue_101 : decode cX1_finishDue 101 = .ok (.invokestatic 118, 3) := by decide +kernel
theorem dX1_finishDue_104 : decode cX1_finishDue 104 = .ok (.invokevirtual 184, 3) := by decide +kernel
theorem dX1_finishDue_107 : decode cX1_finishDue 107 = .ok (.goto (-105), 3) := by decide +kernel
theorem dX1_finishDue_110 : decode cX1_finishDue 110 = .ok (.aload_n 0, 1) := by decide +kernel
theorem dX1_finishDue_111 : decode cX1_finishDue 111 = .ok (.iconst 0, 1) := by decide +kernel
theorem dX1_finishDue_112 : decode cX1_finishDue 112 = .ok (.putfield 175, 3) := by decide +kernel
theorem dX1_finishDue_115 : decode cX1_finishDue 115 = .ok (.iload_n 1, 1) := by decide +kernel
theorem dX1_finishDue_116 : decode cX1_finishDue 116 = .ok (.ireturn, 1) := by decide +kernel
def vb_X1_finishDue_2 (Q : Int32 → Mem → Prop) (rec : Nat → Mem → Int32 → Prop) (γ : Mem) (w1 : Int32) : Prop :=
  (((γ 0 6) ≤ w1) → (∀ γ2 : Mem, γ2 = up γ 0 6 0 → (Q w1 γ2))) ∧ ((¬ (γ 0 6) ≤ w1) → (((12 ≤ w1) → (∀ γ4 : Mem, γ4 = up γ 0 6 0 → (Q w1 γ4))) ∧ ((¬ 12 ≤ w1) → (vp_in w1 12 ∧ (∀ v6 : Int32, v6 = (γ 21 w1.toNatClampNeg) → (vp_in v6 12 ∧ (∀ v8 : Int32, v8 = (γ 6 v6.toNatClampNeg) → (∀ v9 : Int32, v9 = w1 + 1 → (vc_X1_hasTask (fun r10 => ((r10 = 0) → (rec 0 γ v9)) ∧ ((¬ r10 = 0) → (((∀ γ12 : Mem, γ12 = up γ 9 v6.toNatClampNeg ((γ 9 v6.toNatClampNeg) + 1) → (vp_in v8 8 ∧ ((∀ γ14 : Mem, γ14 = up γ12 17 v8.toNatClampNeg ((γ12 17 v8.toNatClampNeg) + 1) → (vc_X7_playerWith (fun r15 => (vc_X5_gain (fun γ17 => (vc_X7_playerWith (fun r18 => vc_X1_takeEffect (fun γ20 => rec 0 γ20 v9) γ17 (γ17 16 v8.toNatClampNeg) r18) v6)) γ14 r15 (γ14 15 v8.toNatClampNeg))) v6))))))))) γ v8)))))))))
def vl_X1_finishDue (Q : Int32 → Mem → Prop) : Nat → Nat → Mem → Int32 → Prop
  | 0, _, _, _ => False
  | n + 1, 0, γ, w1 => vb_X1_finishDue_2 Q (vl_X1_finishDue Q n) γ w1
  | _ + 1, _, _, _ => False
def vc_X1_finishDue (Q : Int32 → Mem → Prop) (γ : Mem) : Prop :=
  ∃ n : Nat, vl_X1_finishDue Q n 0 γ 0
set_option maxHeartbeats 8000000 in
set_option maxRecDepth 100000 in
theorem m_X1_finishDue (l : Launch) (G : GG) (aG : Nat) (γ : Mem) (Q : Int32 → Mem → Prop) (h : vc_X1_finishDue Q γ) : CtI l yX1_finishDue cX1_finishDue 4 (some .int) { frames := 2, cells := 0, slots := 0, locals := 47 } [.ref (aG + 0)] G (fun H => rg G LG aG γ H) (Q) (fun u H => rg G LG aG u H) (RA aG 22) := by
  unfold CtI
  refine met_start (y := yX1_finishDue) (maxL := 4) (av := [.ref (aG + 0)]) (G := G) (P := fun H => rg G LG aG γ H) (by decide) rfl (Nat.le_of_ble_eq_true rfl) (fun p e s m below meth c ls C hr hP hK hl => ?_)
  obtain ⟨hx, hb, hml, hown, hts, hlocks⟩ := id C
  have hG : rg G LG aG γ s.heap := hP
  have hS : va_S (RA aG 22) s.heap s.heap [] := va_S.rf
  have hl : lv_has ls 4 [(0, .ref (aG + 0))] := hl
  have K : ∀ n : Nat, (∀ (γ : Mem) (w1 : Int32) (H : Heap) (locs : List Loc) (ls : Array Slot), rg G LG aG γ H → va_S (RA aG 22) s.heap H locs → lv_has ls 4 [(0, .ref (aG + 0)), (1, .int w1)] → vl_X1_finishDue Q n 0 γ w1 → W p l e { frames := 2, cells := 0, slots := 0, locals := 47 } s m [.ref (aG + 0)].toArray below meth c H locs 0 0 (MQ below (va_Qi (Q) (fun u t => (fun u H => rg G LG aG u H) u t.heap ∧ KK G t) (RA aG 22)) [.ref (aG + 0)].toArray s 0 0 (RA aG 22)) (F0 m 2 ls [])) := by
    intro n
    induction n with
    | zero => exact fun _ _ _ _ _ _ _ _ h => h.elim
    | succ n ih =>
      · intro γ w1 H locs ls hG hS hl h
        replace h : vb_X1_finishDue_2 Q (vl_X1_finishDue Q n) γ w1 := h
        unfold vb_X1_finishDue_2 at h
        refine lv_iload_n hx hb dX1_finishDue_2 rfl (lv_at hl 1 rfl) ?_
        refine lv_aload_n hx hb dX1_finishDue_3 rfl (lv_at hl 0 rfl) ?_
        refine g_getI (a := aG) (k := 0) C hK hG fl_X1_175 rfl rfl dX1_finishDue_4 ?_
        refine lv_icmp_ge (tgt := 110) hx hb dX1_finishDue_7 (by decide) (fun c1 => ?_) (fun c1 => ?_)
        · replace h := h.1 c1
          refine lv_aload_n hx hb dX1_finishDue_110 rfl (lv_at hl 0 rfl) ?_
          refine lv_iconst (v := 0) hx hb dX1_finishDue_111 (by decide) ?_
          refine g_put (a := aG) (k := 0) C hK hG hS fl_X1_175 fp_X1_6 rfl rfl (by rfl) (by rfl) (RA_in (by decide)) dX1_finishDue_112 (fun γ2 H locs eγ2 hG hS hq => ?_)
          specialize h γ2 eγ2
          refine lv_iload_n hx hb dX1_finishDue_115 rfl (lv_at hl 1 rfl) ?_
          exact g_iret (post := Q) (P' := fun u H => rg G LG aG u H) (r := w1) (u := γ2) C hr hK hS h hG dX1_finishDue_116
        · replace h := h.2 c1
          refine lv_iload_n hx hb dX1_finishDue_10 rfl (lv_at hl 1 rfl) ?_
          refine lv_bipush (v := 12) hx hb dX1_finishDue_11 (by decide) ?_
          refine lv_icmp_ge (tgt := 110) hx hb dX1_finishDue_13 (by decide) (fun c3 => ?_) (fun c3 => ?_)
          · replace h := h.1 c3
            refine lv_aload_n hx hb dX1_finishDue_110 rfl (lv_at hl 0 rfl) ?_
            refine lv_iconst (v := 0) hx hb dX1_finishDue_111 (by decide) ?_
            refine g_put (a := aG) (k := 0) C hK hG hS fl_X1_175 fp_X1_6 rfl rfl (by rfl) (by rfl) (RA_in (by decide)) dX1_finishDue_112 (fun γ4 H locs eγ4 hG hS hq => ?_)
            specialize h γ4 eγ4
            refine lv_iload_n hx hb dX1_finishDue_115 rfl (lv_at hl 1 rfl) ?_
            exact g_iret (post := Q) (P' := fun u H => rg G LG aG u H) (r := w1) (u := γ4) C hr hK hS h hG dX1_finishDue_116
          · replace h := h.2 c3
            refine lv_aload_n hx hb dX1_finishDue_16 rfl (lv_at hl 0 rfl) ?_
            refine g_getR (a := aG) (k := 0) (o := 21) C hK hG fl_X1_39 rfl rfl dX1_finishDue_17 ?_
            refine lv_iload_n hx hb dX1_finishDue_20 rfl (lv_at hl 1 rfl) ?_
            obtain ⟨b5, h⟩ := h
            refine g_ald (a := aG) (k := 21) (n := 12) C hK hG rfl b5 dX1_finishDue_21 ?_
            refine lv_topi (fun v6 ev6 => ?_)
            specialize h v6 ev6
            refine lv_istore_n (lv' := [(2, .int v6), (0, .ref (aG + 0)), (1, .int w1)]) hx hb dX1_finishDue_22 rfl hl (by decide) rfl (fun ls hl => ?_)
            refine lv_aload_n hx hb dX1_finishDue_23 rfl (lv_at hl 1 rfl) ?_
            refine g_getR (a := aG) (k := 0) (o := 4) C hK hG fl_X1_21 rfl rfl dX1_finishDue_24 ?_
            refine g_getR (a := aG) (k := 4) (o := 6) C hK hG fl_X1_112 rfl rfl dX1_finishDue_27 ?_
            refine lv_iload_n hx hb dX1_finishDue_30 rfl (lv_at hl 0 rfl) ?_
            obtain ⟨b7, h⟩ := h
            refine g_ald (a := aG) (k := 6) (n := 12) C hK hG rfl b7 dX1_finishDue_31 ?_
            refine lv_topi (fun v8 ev8 => ?_)
            specialize h v8 ev8
            refine lv_istore_n (lv' := [(3, .int v8), (2, .int v6), (0, .ref (aG + 0)), (1, .int w1)]) hx hb dX1_finishDue_32 rfl hl (by decide) rfl (fun ls hl => ?_)
            obtain ⟨v9, ev9⟩ : ∃ y : Int32, y = w1 + 1 := ⟨_, rfl⟩
            specialize h v9 ev9
            refine lv_iinc (v := v9) (lv' := [(1, .int v9), (3, .int v8), (2, .int v6), (0, .ref (aG + 0))]) hx hb dX1_finishDue_33 hl (k := 3) rfl (by rw [ev9]; rfl) (by decide) rfl (fun ls hl => ?_)
            refine lv_aload_n hx hb dX1_finishDue_36 rfl (lv_at hl 3 rfl) ?_
            refine lv_iload_n hx hb dX1_finishDue_37 rfl (lv_at hl 1 rfl) ?_
            refine g_vI C hK hl.1 (m_X1_hasTask l G aG γ v8 _ h) mw_X1_hasTask mi_X1_hasTask ml_X1_124 rfl ⟨rfl, rfl, Nat.le_of_ble_eq_true rfl, Nat.le_of_ble_eq_true rfl⟩ ⟨Nat.zero_le _, Nat.zero_le _⟩ (g_recv (a := aG) (k := 0) hK hG rfl rfl) hG hS (fun _ h => h.elim) rfl (Nat.le_of_ble_eq_true rfl) dX1_finishDue_38 (fun r10 u H locs h hu _ hq hS => ?_)
            have hG := hG.past hq (fun _ _ h => h)
            refine lv_if_eq (tgt := 107) hx hb dX1_finishDue_41 (by decide) (fun c11 => ?_) (fun c11 => ?_)
            · replace h := h.1 c11
              refine lv_goto (tgt := 2) hx hb dX1_finishDue_107 (by decide) ?_
              exact (ih) γ v9 _ _ _ hG hS (lv_sub hl [3, 0] rfl) h
            · replace h := h.2 c11
              refine lv_aload_n hx hb dX1_finishDue_44 rfl (lv_at hl 3 rfl) ?_
              refine g_getR (a := aG) (k := 0) (o := 4) C hK hG fl_X1_21 rfl rfl dX1_finishDue_45 ?_
              refine g_getR (a := aG) (k := 4) (o := 9) C hK hG fl_X1_178 rfl rfl dX1_finishDue_48 ?_
              refine lv_iload_n hx hb dX1_finishDue_51 rfl (lv_at hl 2 rfl) ?_
              refine lv_dup2_11 hx hb dX1_finishDue_52 rfl rfl ?_
              refine g_ald (a := aG) (k := 9) (n := 12) C hK hG rfl b7 dX1_finishDue_53 ?_
              refine lv_iconst (v := 1) hx hb dX1_finishDue_54 (by decide) ?_
              refine lv_iadd hx hb dX1_finishDue_55 ?_
              refine g_ast (a := aG) (k := 9) (n := 12) C hK hG hS rfl b7 (RA_in (by decide)) dX1_finishDue_56 (fun γ12 H locs eγ12 hG hS hq => ?_)
              specialize h γ12 eγ12
              refine lv_aload_n hx hb dX1_finishDue_57 rfl (lv_at hl 3 rfl) ?_
              refine g_getR (a := aG) (k := 0) (o := 12) C hK hG fl_X1_28 rfl rfl dX1_finishDue_58 ?_
              refine g_getR (a := aG) (k := 12) (o := 17) C hK hG fl_X1_181 rfl rfl dX1_finishDue_61 ?_
              refine lv_iload_n hx hb dX1_finishDue_64 rfl (lv_at hl 1 rfl) ?_
              refine lv_dup2_11 hx hb dX1_finishDue_65 rfl rfl ?_
              obtain ⟨b13, h⟩ := h
              refine g_ald (a := aG) (k := 17) (n := 8) C hK hG rfl b13 dX1_finishDue_66 ?_
              refine lv_iconst (v := 1) hx hb dX1_finishDue_67 (by decide) ?_
              refine lv_iadd hx hb dX1_finishDue_68 ?_
              refine g_ast (a := aG) (k := 17) (n := 8) C hK hG hS rfl b13 (RA_in (by decide)) dX1_finishDue_69 (fun γ14 H locs eγ14 hG hS hq => ?_)
              specialize h γ14 eγ14
              refine lv_aload_n hx hb dX1_finishDue_70 rfl (lv_at hl 3 rfl) ?_
              refine g_getR (a := aG) (k := 0) (o := 1) C hK hG fl_X1_12 rfl rfl dX1_finishDue_71 ?_
              refine lv_iload_n hx hb dX1_finishDue_74 rfl (lv_at hl 2 rfl) ?_
              refine g_nI C hK hl.1 (m_X7_playerWith l G v6 _ h) mw_X7_playerWith ms_X7_playerWith nl_X1_118 rfl ⟨rfl, rfl, Nat.le_of_ble_eq_true rfl, Nat.le_of_ble_eq_true rfl⟩ ⟨Nat.zero_le _, Nat.zero_le _⟩ trivial hS (fun _ h => h.elim) rfl (Nat.le_of_ble_eq_true rfl) dX1_finishDue_75 (fun r15 u H locs h hu _ hq hS => ?_)
              have hG := hG.past hq (fun _ _ h => h)
              refine lv_aload_n hx hb dX1_finishDue_78 rfl (lv_at hl 3 rfl) ?_
              refine g_getR (a := aG) (k := 0) (o := 12) C hK hG fl_X1_28 rfl rfl dX1_finishDue_79 ?_
              refine g_getR (a := aG) (k := 12) (o := 15) C hK hG fl_X1_96 rfl rfl dX1_finishDue_82 ?_
              refine lv_iload_n hx hb dX1_finishDue_85 rfl (lv_at hl 1 rfl) ?_
              refine g_ald (a := aG) (k := 15) (n := 8) C hK hG rfl b13 dX1_finishDue_86 ?_
              refine g_vV C hK hl.1 (m_X5_gain l G aG γ14 r15 (γ14 15 v8.toNatClampNeg) _ h) mw_X5_gain mi_X5_gain ml_X1_182 rfl ⟨rfl, rfl, Nat.le_of_ble_eq_true rfl, Nat.le_of_ble_eq_true rfl⟩ ⟨Nat.zero_le _, Nat.zero_le _⟩ (g_recv (a := aG) (k := 1) hK hG rfl rfl) hG hS (fun _ h => h) rfl (Nat.le_of_ble_eq_true rfl) dX1_finishDue_87 (fun u H locs h hu _ hq hS => ?_)
              obtain ⟨γ17, rfl⟩ : ∃ z, z = u := ⟨_, rfl⟩
              have hG := hu
              refine lv_aload_n hx hb dX1_finishDue_90 rfl (lv_at hl 3 rfl) ?_
              refine lv_aload_n hx hb dX1_finishDue_91 rfl (lv_at hl 3 rfl) ?_
              refine g_getR (a := aG) (k := 0) (o := 12) C hK hG fl_X1_28 rfl rfl dX1_finishDue_92 ?_
              refine g_getR (a := aG) (k := 12) (o := 16) C hK hG fl_X1_99 rfl rfl dX1_finishDue_95 ?_
              refine lv_iload_n hx hb dX1_finishDue_98 rfl (lv_at hl 1 rfl) ?_
              refine g_ald (a := aG) (k := 16) (n := 8) C hK hG rfl b13 dX1_finishDue_99 ?_
              refine lv_iload_n hx hb dX1_finishDue_100 rfl (lv_at hl 2 rfl) ?_
              refine g_nI C hK hl.1 (m_X7_playerWith l G v6 _ h) mw_X7_playerWith ms_X7_playerWith nl_X1_118 rfl ⟨rfl, rfl, Nat.le_of_ble_eq_true rfl, Nat.le_of_ble_eq_true rfl⟩ ⟨Nat.zero_le _, Nat.zero_le _⟩ trivial hS (fun _ h => h.elim) rfl (Nat.le_of_ble_eq_true rfl) dX1_finishDue_101 (fun r18 u H locs h hu _ hq hS => ?_)
              have hG := hG.past hq (fun _ _ h => h)
              refine g_vV C hK hl.1 (m_X1_takeEffect l G aG γ17 (γ17 16 v8.toNatClampNeg) r18 _ h) mw_X1_takeEffect mi_X1_takeEffect ml_X1_184 rfl ⟨rfl, rfl, Nat.le_of_ble_eq_true rfl, Nat.le_of_ble_eq_true rfl⟩ ⟨Nat.zero_le _, Nat.zero_le _⟩ (g_recv (a := aG) (k := 0) hK hG rfl rfl) hG hS (fun _ h => h) rfl (Nat.le_of_ble_eq_true rfl) dX1_finishDue_104 (fun u H locs h hu _ hq hS => ?_)
              obtain ⟨γ20, rfl⟩ : ∃ z, z = u := ⟨_, rfl⟩
              have hG := hu
              refine lv_goto (tgt := 2) hx hb dX1_finishDue_107 (by decide) ?_
              exact (ih) γ20 v9 _ _ _ hG hS (lv_sub hl [3, 0] rfl) h
  unfold vc_X1_finishDue at h
  obtain ⟨n, h⟩ := h
  refine lv_iconst (v := 0) hx hb dX1_finishDue_0 (by decide) ?_
  refine lv_istore_n (lv' := [(1, .int 0), (0, .ref (aG + 0))]) hx hb dX1_finishDue_1 rfl hl (by decide) rfl (fun ls hl => ?_)
  exact ((K n)) γ 0 _ _ _ hG hS (lv_sub hl [1, 0] rfl) h
theorem dX1_flipByHand_0 : decode cX1_flipByHand 0 = .ok (.aload_n 0, 1) := by decide +kernel
theorem dX1_flipByHand_1 : decode cX1_flipByHand 1 = .ok (.iload_n 1, 1) := by decide +kernel
theorem dX1_flipByHand_2 : decode cX1_flipByHand 2 = .ok (.iload_n 2, 1) := by decide +kernel
theorem dX1_flipByHand_3 : decode cX1_flipByHand 3 = .ok (.invokevirtual 74, 3) := by decide +kernel
theorem dX1_flipByHand_6 : decode cX1_flipByHand 6 = .ok (.ifCond .ne 6, 3) := by decide +kernel
theorem dX1_flipByHand_9 : decode cX1_flipByHand 9 = .ok (.ldc 78, 2) := by decide +kernel
theorem dX1_flipByHand_11 : decode cX1_flipByHand 11 = .ok (.ireturn, 1) := by decide +kernel
theorem dX1_flipByHand_12 : decode cX1_flipByHand 12 = .ok (.iload_n 1, 1) := by decide +kernel
theorem dX1_flipByHand_13 : decode cX1_flipByHand 13 = .ok (.iload_n 2, 1) := by decide +kernel
theorem dX1_flipByHand_14 : decode cX1_flipByHand 14 = .ok (.invokestatic 79, 3) := by decide +kernel
theorem dX1_flipByHand_17 : decode cX1_flipByHand 17 = .ok (.istore_n 3, 1) := by decide +kernel
theorem dX1_flipByHand_18 : decode cX1_flipByHand 18 = .ok (.aload_n 0, 1) := by decide +kernel
theorem dX1_flipByHand_19 : decode cX1_flipByHand 19 = .ok (.getfield 21, 3) := by decide +kernel
theorem dX1_flipByHand_22 : decode cX1_flipByHand 22 = .ok (.iload_n 3, 1) := by decide +kernel
theorem dX1_flipByHand_23 : decode cX1_flipByHand 23 = .ok (.invokevirtual 83, 3) := by decide +kernel
theorem dX1_flipByHand_26 : decode cX1_flipByHand 26 = .ok (.ifCond .eq 6, 3) := by decide +kernel
theorem dX1_flipByHand_29 : decode cX1_flipByHand 29 = .ok (.ldc 86, 2) := by decide +kernel
theorem dX1_flipByHand_31 : decode cX1_flipByHand 31 = .ok (.ireturn, 1) := by decide +kernel
theorem dX1_flipByHand_32 : decode cX1_flipByHand 32 = .ok (.aload_n 0, 1) := by decide +kernel
theorem dX1_flipByHand_33 : decode cX1_flipByHand 33 = .ok (.getfield 21, 3) := by decide +kernel
theorem dX1_flipByHand_36 : decode cX1_flipByHand 36 = .ok (.iload_n 3, 1) := by decide +kernel
theorem dX1_flipByHand_37 : decode cX1_flipByHand 37 = .ok (.invokevirtual 137, 3) := by decide +kernel
theorem dX1_flipByHand_40 : decode cX1_flipByHand 40 = .ok (.aload_n 0, 1) := by decide +kernel
theorem dX1_flipByHand_41 : decode cX1_flipByHand 41 = .ok (.iload_n 3, 1) := by decide +kernel
theorem dX1_flipByHand_42 : decode cX1_flipByHand 42 = .ok (.invokevirtual 141, 3) := by decide +kernel
theorem dX1_flipByHand_45 : decode cX1_flipByHand 45 = .ok (.aload_n 0, 1) := by decide +kernel
theorem dX1_flipByHand_46 : decode cX1_flipByHand 46 = .ok (.invokevirtual 144, 3) := by decide +kernel
theorem dX1_flipByHand_49 : decode cX1_flipByHand 49 = .ok (.pop, 1) := by decide +kernel
theorem dX1_flipByHand_50 : decode cX1_flipByHand 50 = .ok (.aload_n 0, 1) := by decide +kernel
theorem dX1_flipByHand_51 : decode cX1_flipByHand 51 = .ok (.getfield 21, 3) := by decide +kernel
theorem dX1_flipByHand_54 : decode cX1_flipByHand 54 = .ok (.getfield 148, 3) := by decide +kernel
theorem dX1_flipByHand_57 : decode cX1_flipByHand 57 = .ok (.iload_n 3, 1) := by decide +kernel
theorem dX1_flipByHand_58 : decode cX1_flipByHand 58 = .ok (.iaload, 1) := by decide +kernel
theorem dX1_flipByHand_59 : decode cX1_flipByHand 59 = .ok (.ireturn, 1) := by decide +kernel
def vc_X1_flipByHand (Q : Int32 → Mem → Prop) (γ : Mem) (x1 : Int32) (x2 : Int32) : Prop :=
  vc_X1_hasWorker (fun r1 => ((¬ r1 = 0) → (vc_X7_glassOf (fun r3 => vc_X2_isOut (fun r4 => ((r4 = 0) → (vc_X2_flipOne (fun γ7 => vc_X1_addIfDue (fun γ9 => vc_X1_finishDue (fun r10 γ11 => vp_in r3 12 ∧ (Q (γ11 7 r3.toNatClampNeg) γ11)) γ9) γ7 r3) γ r3)) ∧ ((¬ r4 = 0) → (Q (-1000002) γ))) γ r3) x1 x2)) ∧ ((r1 = 0) → (Q (-1000001) γ))) γ x1 x2
set_option maxHeartbeats 8000000 in
set_option maxRecDepth 100000 in
theorem m_X1_flipByHand (l : Launch) (G : GG) (aG : Nat) (γ : Mem) (x1 : Int32) (x2 : Int32) (Q : Int32 → Mem → Prop) (h : vc_X1_flipByHand Q γ x1 x2) : CtI l yX1_flipByHand cX1_flipByHand 4 (some .int) { frames := 3, cells := 0, slots := 0, locals := 70 } [.ref (aG + 0), .int x1, .int x2] G (fun H => rg G LG aG γ H) (Q) (fun u H => rg G LG aG u H) (RA aG 22) := by
  unfold CtI
  refine met_start (y := yX1_flipByHand) (maxL := 4) (av := [.ref (aG + 0), .int x1, .int x2]) (G := G) (P := fun H => rg G LG aG γ H) (by decide) rfl (Nat.le_of_ble_eq_true rfl) (fun p e s m below meth c ls C hr hP hK hl => ?_)
  obtain ⟨hx, hb, hml, hown, hts, hlocks⟩ := id C
  have hG : rg G LG aG γ s.heap := hP
  have hS : va_S (RA aG 22) s.heap s.heap [] := va_S.rf
  have hl : lv_has ls 4 [(0, .ref (aG + 0)), (1, .int x1), (2, .int x2)] := hl
  unfold vc_X1_flipByHand at h
  refine lv_aload_n hx hb dX1_flipByHand_0 rfl (lv_at hl 0 rfl) ?_
  refine lv_iload_n hx hb dX1_flipByHand_1 rfl (lv_at hl 1 rfl) ?_
  refine lv_iload_n hx hb dX1_flipByHand_2 rfl (lv_at hl 2 rfl) ?_
  refine g_vI C hK hl.1 (m_X1_hasWorker l G aG γ x1 x2 _ h) mw_X1_hasWorker mi_X1_hasWorker ml_X1_74 rfl ⟨rfl, rfl, Nat.le_of_ble_eq_true rfl, Nat.le_of_ble_eq_true rfl⟩ ⟨Nat.zero_le _, Nat.zero_le _⟩ (g_recv (a := aG) (k := 0) hK hG rfl rfl) hG hS (fun _ h => h.elim) rfl (Nat.le_of_ble_eq_true rfl) dX1_flipByHand_3 (fun r1 u H locs h hu _ hq hS => ?_)
  have hG := hG.past hq (fun _ _ h => h)
  refine lv_if_ne (tgt := 12) hx hb dX1_flipByHand_6 (by decide) (fun c2 => ?_) (fun c2 => ?_)
  · replace h := h.1 c2
    refine lv_iload_n hx hb dX1_flipByHand_12 rfl (lv_at hl 1 rfl) ?_
    refine lv_iload_n hx hb dX1_flipByHand_13 rfl (lv_at hl 2 rfl) ?_
    refine g_nI C hK hl.1 (m_X7_glassOf l G x1 x2 _ h) mw_X7_glassOf ms_X7_glassOf nl_X1_79 rfl ⟨rfl, rfl, Nat.le_of_ble_eq_true rfl, Nat.le_of_ble_eq_true rfl⟩ ⟨Nat.zero_le _, Nat.zero_le _⟩ trivial hS (fun _ h => h.elim) rfl (Nat.le_of_ble_eq_true rfl) dX1_flipByHand_14 (fun r3 u H locs h hu _ hq hS => ?_)
    have hG := hG.past hq (fun _ _ h => h)
    refine lv_istore_n (lv' := [(3, .int r3), (0, .ref (aG + 0)), (1, .int x1), (2, .int x2)]) hx hb dX1_flipByHand_17 rfl hl (by decide) rfl (fun ls hl => ?_)
    refine lv_aload_n hx hb dX1_flipByHand_18 rfl (lv_at hl 1 rfl) ?_
    refine g_getR (a := aG) (k := 0) (o := 4) C hK hG fl_X1_21 rfl rfl dX1_flipByHand_19 ?_
    refine lv_iload_n hx hb dX1_flipByHand_22 rfl (lv_at hl 0 rfl) ?_
    refine g_vI C hK hl.1 (m_X2_isOut l G aG γ r3 _ h) mw_X2_isOut mi_X2_isOut ml_X1_83 rfl ⟨rfl, rfl, Nat.le_of_ble_eq_true rfl, Nat.le_of_ble_eq_true rfl⟩ ⟨Nat.zero_le _, Nat.zero_le _⟩ (g_recv (a := aG) (k := 4) hK hG rfl rfl) hG hS (fun _ h => h.elim) rfl (Nat.le_of_ble_eq_true rfl) dX1_flipByHand_23 (fun r4 u H locs h hu _ hq hS => ?_)
    have hG := hG.past hq (fun _ _ h => h)
    refine lv_if_eq (tgt := 32) hx hb dX1_flipByHand_26 (by decide) (fun c5 => ?_) (fun c5 => ?_)
    · replace h := h.1 c5
      refine lv_aload_n hx hb dX1_flipByHand_32 rfl (lv_at hl 1 rfl) ?_
      refine g_getR (a := aG) (k := 0) (o := 4) C hK hG fl_X1_21 rfl rfl dX1_flipByHand_33 ?_
      refine lv_iload_n hx hb dX1_flipByHand_36 rfl (lv_at hl 0 rfl) ?_
      refine g_vV C hK hl.1 (m_X2_flipOne l G aG γ r3 _ h) mw_X2_flipOne mi_X2_flipOne ml_X1_137 rfl ⟨rfl, rfl, Nat.le_of_ble_eq_true rfl, Nat.le_of_ble_eq_true rfl⟩ ⟨Nat.zero_le _, Nat.zero_le _⟩ (g_recv (a := aG) (k := 4) hK hG rfl rfl) hG hS (fun _ h => h) rfl (Nat.le_of_ble_eq_true rfl) dX1_flipByHand_37 (fun u H locs h hu _ hq hS => ?_)
      obtain ⟨γ7, rfl⟩ : ∃ z, z = u := ⟨_, rfl⟩
      have hG := hu
      refine lv_aload_n hx hb dX1_flipByHand_40 rfl (lv_at hl 1 rfl) ?_
      refine lv_iload_n hx hb dX1_flipByHand_41 rfl (lv_at hl 0 rfl) ?_
      refine g_vV C hK hl.1 (m_X1_addIfDue l G aG γ7 r3 _ h) mw_X1_addIfDue mi_X1_addIfDue ml_X1_141 rfl ⟨rfl, rfl, Nat.le_of_ble_eq_true rfl, Nat.le_of_ble_eq_true rfl⟩ ⟨Nat.zero_le _, Nat.zero_le _⟩ (g_recv (a := aG) (k := 0) hK hG rfl rfl) hG hS (fun _ h => h) rfl (Nat.le_of_ble_eq_true rfl) dX1_flipByHand_42 (fun u H locs h hu _ hq hS => ?_)
      obtain ⟨γ9, rfl⟩ : ∃ z, z = u := ⟨_, rfl⟩
      have hG := hu
      refine lv_aload_n hx hb dX1_flipByHand_45 rfl (lv_at hl 1 rfl) ?_
      refine g_vI C hK hl.1 (m_X1_finishDue l G aG γ9 _ h) mw_X1_finishDue mi_X1_finishDue ml_X1_144 rfl ⟨rfl, rfl, Nat.le_of_ble_eq_true rfl, Nat.le_of_ble_eq_true rfl⟩ ⟨Nat.zero_le _, Nat.zero_le _⟩ (g_recv (a := aG) (k := 0) hK hG rfl rfl) hG hS (fun _ h => h) rfl (Nat.le_of_ble_eq_true rfl) dX1_flipByHand_46 (fun r10 u H locs h hu _ hq hS => ?_)
      obtain ⟨γ11, rfl⟩ : ∃ z, z = u := ⟨_, rfl⟩
      have hG := hu
      refine lv_pop hx hb dX1_flipByHand_49 rfl ?_
      refine lv_aload_n hx hb dX1_flipByHand_50 rfl (lv_at hl 1 rfl) ?_
      refine g_getR (a := aG) (k := 0) (o := 4) C hK hG fl_X1_21 rfl rfl dX1_flipByHand_51 ?_
      refine g_getR (a := aG) (k := 4) (o := 7) C hK hG fl_X1_148 rfl rfl dX1_flipByHand_54 ?_
      refine lv_iload_n hx hb dX1_flipByHand_57 rfl (lv_at hl 0 rfl) ?_
      obtain ⟨b12, h⟩ := h
      refine g_ald (a := aG) (k := 7) (n := 12) C hK hG rfl b12 dX1_flipByHand_58 ?_
      exact g_iret (post := Q) (P' := fun u H => rg G LG aG u H) (r := (γ11 7 r3.toNatClampNeg)) (u := γ11) C hr hK hS h hG dX1_flipByHand_59
    · replace h := h.2 c5
      refine g_ldc C kc_X1_86 dX1_flipByHand_29 ?_
      exact g_iret (post := Q) (P' := fun u H => rg G LG aG u H) (r := (-1000002)) (u := γ) C hr hK hS h hG dX1_flipByHand_31
  · replace h := h.2 c2
    refine g_ldc C kc_X1_78 dX1_flipByHand_9 ?_
    exact g_iret (post := Q) (P' := fun u H => rg G LG aG u H) (r := (-1000001)) (u := γ) C hr hK hS h hG dX1_flipByHand_11
theorem dX1_buyContract_0 : decode cX1_buyContract 0 = .ok (.aload_n 0, 1) := by decide +kernel
theorem dX1_buyContract_1 : decode cX1_buyContract 1 = .ok (.iload_n 1, 1) := by decide +kernel
theorem dX1_buyContract_2 : decode cX1_buyContract 2 = .ok (.invokevirtual 67, 3) := by decide +kernel
theorem dX1_buyContract_5 : decode cX1_buyContract 5 = .ok (.ifCond .eq 11, 3) := by decide +kernel
theorem dX1_buyContract_8 : decode cX1_buyContract 8 = .ok (.aload_n 0, 1) := by decide +kernel
theorem dX1_buyContract_9 : decode cX1_buyContract 9 = .ok (.iload_n 2, 1) := by decide +kernel
theorem dX1_buyContract_10 : decode cX1_buyContract 10 = .ok (.invokevirtual 151, 3) := by decide +kernel
theorem dX1_buyContract_13 : decode cX1_buyContract 13 = .ok (.ifCond .ne 6, 3) := by decide +kernel
theorem dX1_buyContract_16 : decode cX1_buyContract 16 = .ok (.ldc 78, 2) := by decide +kernel
theorem dX1_buyContract_18 : decode cX1_buyContract 18 = .ok (.ireturn, 1) := by decide +kernel
theorem dX1_buyContract_19 : decode cX1_buyContract 19 = .ok (.aload_n 0, 1) := by decide +kernel
theorem dX1_buyContract_20 : decode cX1_buyContract 20 = .ok (.getfield 35, 3) := by decide +kernel
theorem dX1_buyContract_23 : decode cX1_buyContract 23 = .ok (.getfield 102, 3) := by decide +kernel
theorem dX1_buyContract_26 : decode cX1_buyContract 26 = .ok (.iload_n 2, 1) := by decide +kernel
theorem dX1_buyContract_27 : decode cX1_buyContract 27 = .ok (.iaload, 1) := by decide +kernel
theorem dX1_buyContract_28 : decode cX1_buyContract 28 = .ok (.istore_n 3, 1) := by decide +kernel
theorem dX1_buyContract_29 : decode cX1_buyContract 29 = .ok (.aload_n 0, 1) := by decide +kernel
theorem dX1_buyContract_30 : decode cX1_buyContract 30 = .ok (.getfield 12, 3) := by decide +kernel
theorem dX1_buyContract_33 : decode cX1_buyContract 33 = .ok (.iload_n 1, 1) := by decide +kernel
theorem dX1_buyContract_34 : decode cX1_buyContract 34 = .ok (.iload_n 3, 1) := by decide +kernel
theorem dX1_buyContract_35 : decode cX1_buyContract 35 = .ok (.invokevirtual 121, 3) := by decide +kernel
theorem dX1_buyContract_38 : decode cX1_buyContract 38 = .ok (.ifCond .ne 6, 3) := by decide +kernel
theorem dX1_buyContract_41 : decode cX1_buyContract 41 = .ok (.ldc 86, 2) := by decide +kernel
theorem dX1_buyContract_43 : decode cX1_buyContract 43 = .ok (.ireturn, 1) := by decide +kernel
theorem dX1_buyContract_44 : decode cX1_buyContract 44 = .ok (.aload_n 0, 1) := by decide +kernel
theorem dX1_buyContract_45 : decode cX1_buyContract 45 = .ok (.getfield 12, 3) := by decide +kernel
theorem dX1_buyContract_48 : decode cX1_buyContract 48 = .ok (.iload_n 1, 1) := by decide +kernel
theorem dX1_buyContract_49 : decode cX1_buyContract 49 = .ok (.iload_n 3, 1) := by decide +kernel
theorem dX1_buyContract_50 : decode cX1_buyContract 50 = .ok (.invokevirtual 130, 3) := by decide +kernel
theorem dX1_buyContract_53 : decode cX1_buyContract 53 = .ok (.aload_n 0, 1) := by decide +kernel
theorem dX1_buyContract_54 : decode cX1_buyContract 54 = .ok (.getfield 12, 3) := by decide +kernel
theorem dX1_buyContract_57 : decode cX1_buyContract 57 = .ok (.getfield 154, 3) := by decide +kernel
theorem dX1_buyContract_60 : decode cX1_buyContract 60 = .ok (.iload_n 1, 1) := by decide +kernel
theorem dX1_buyContract_61 : decode cX1_buyContract 61 = .ok (.dup2, 1) := by decide +kernel
theorem dX1_buyContract_62 : decode cX1_buyContract 62 = .ok (.iaload, 1) := by decide +kernel
theorem dX1_buyContract_63 : decode cX1_buyContract 63 = .ok (.aload_n 0, 1) := by decide +kernel
theorem dX1_buyContract_64 : decode cX1_buyContract 64 = .ok (.getfield 35, 3) := by decide +kernel
theorem dX1_buyContract_67 : decode cX1_buyContract 67 = .ok (.getfield 105, 3) := by decide +kernel
theorem dX1_buyContract_70 : decode cX1_buyContract 70 = .ok (.iload_n 2, 1) := by decide +kernel
theorem dX1_buyContract_71 : decode cX1_buyContract 71 = .ok (.iaload, 1) := by decide +kernel
theorem dX1_buyContract_72 : decode cX1_buyContract 72 = .ok (.iadd, 1) := by decide +kernel
theorem dX1_buyContract_73 : decode cX1_buyContract 73 = .ok (.iastore, 1) := by decide +kernel
theorem dX1_buyContract_74 : decode cX1_buyContract 74 = .ok (.aload_n 0, 1) := by decide +kernel
theorem dX1_buyContract_75 : decode cX1_buyContract 75 = .ok (.getfield 35, 3) := by decide +kernel
theorem dX1_buyContract_78 : decode cX1_buyContract 78 = .ok (.iload_n 2, 1) := by decide +kernel
theorem dX1_buyContract_79 : decode cX1_buyContract 79 = .ok (.invokevirtual 155, 3) := by decide +kernel
theorem dX1_buyContract_82 : decode cX1_buyContract 82 = .ok (.aload_n 0, 1) := by decide +kernel
theorem dX1_buyContract_83 : decode cX1_buyContract 83 = .ok (.getfield 12, 3) := by decide +kernel
theorem dX1_buyContract_86 : decode cX1_buyContract 86 = .ok (.getfield 154, 3) := by decide +kernel
theorem dX1_buyContract_89 : decode cX1_buyContract 89 = .ok (.iload_n 1, 1) := by decide +kernel
theorem dX1_buyContract_90 : decode cX1_buyContract 90 = .ok (.iaload, 1) := by decide +kernel
theorem dX1_buyContract_91 : decode cX1_buyContract 91 = .ok (.ireturn, 1) := by decide +kernel
def vc_X1_buyContract (Q : Int32 → Mem → Prop) (γ : Mem) (x1 : Int32) (x2 : Int32) : Prop :=
  vc_X1_hasPlayer (fun r1 => ((r1 = 0) → (Q (-1000001) γ)) ∧ ((¬ r1 = 0) → (vc_X1_hasContract (fun r3 => ((¬ r3 = 0) → (vp_in x2 6 ∧ (∀ v6 : Int32, v6 = (γ 19 x2.toNatClampNeg) → (vc_X5_have (fun r7 => ((¬ r7 = 0) → (vc_X5_pay (fun γ10 => vp_in x1 4 ∧ (((∀ γ12 : Mem, γ12 = up γ10 3 x1.toNatClampNeg ((γ10 3 x1.toNatClampNeg) + (γ10 20 x2.toNatClampNeg)) → (vc_X0_remove (fun γ14 => (Q (γ14 3 x1.toNatClampNeg) γ14)) γ12 x2))))) γ x1 v6)) ∧ ((r7 = 0) → (Q (-1000002) γ))) γ x1 v6)))) ∧ ((r3 = 0) → (Q (-1000001) γ))) γ x2))) γ x1
set_option maxHeartbeats 8000000 in
set_option maxRecDepth 100000 in
theorem m_X1_buyContract (l : Launch) (G : GG) (aG : Nat) (γ : Mem) (x1 : Int32) (x2 : Int32) (Q : Int32 → Mem → Prop) (h : vc_X1_buyContract Q γ x1 x2) : CtI l yX1_buyContract cX1_buyContract 4 (some .int) { frames := 2, cells := 0, slots := 0, locals := 45 } [.ref (aG + 0), .int x1, .int x2] G (fun H => rg G LG aG γ H) (Q) (fun u H => rg G LG aG u H) (RA aG 22) := by
  unfold CtI
  refine met_start (y := yX1_buyContract) (maxL := 4) (av := [.ref (aG + 0), .int x1, .int x2]) (G := G) (P := fun H => rg G LG aG γ H) (by decide) rfl (Nat.le_of_ble_eq_true rfl) (fun p e s m below meth c ls C hr hP hK hl => ?_)
  obtain ⟨hx, hb, hml, hown, hts, hlocks⟩ := id C
  have hG : rg G LG aG γ s.heap := hP
  have hS : va_S (RA aG 22) s.heap s.heap [] := va_S.rf
  have hl : lv_has ls 4 [(0, .ref (aG + 0)), (1, .int x1), (2, .int x2)] := hl
  unfold vc_X1_buyContract at h
  refine lv_aload_n hx hb dX1_buyContract_0 rfl (lv_at hl 0 rfl) ?_
  refine lv_iload_n hx hb dX1_buyContract_1 rfl (lv_at hl 1 rfl) ?_
  refine g_vI C hK hl.1 (m_X1_hasPlayer l G aG γ x1 _ h) mw_X1_hasPlayer mi_X1_hasPlayer ml_X1_67 rfl ⟨rfl, rfl, Nat.le_of_ble_eq_true rfl, Nat.le_of_ble_eq_true rfl⟩ ⟨Nat.zero_le _, Nat.zero_le _⟩ (g_recv (a := aG) (k := 0) hK hG rfl rfl) hG hS (fun _ h => h.elim) rfl (Nat.le_of_ble_eq_true rfl) dX1_buyContract_2 (fun r1 u H locs h hu _ hq hS => ?_)
  have hG := hG.past hq (fun _ _ h => h)
  refine lv_if_eq (tgt := 16) hx hb dX1_buyContract_5 (by decide) (fun c2 => ?_) (fun c2 => ?_)
  · replace h := h.1 c2
    refine g_ldc C kc_X1_78 dX1_buyContract_16 ?_
    exact g_iret (post := Q) (P' := fun u H => rg G LG aG u H) (r := (-1000001)) (u := γ) C hr hK hS h hG dX1_buyContract_18
  · replace h := h.2 c2
    refine lv_aload_n hx hb dX1_buyContract_8 rfl (lv_at hl 0 rfl) ?_
    refine lv_iload_n hx hb dX1_buyContract_9 rfl (lv_at hl 2 rfl) ?_
    refine g_vI C hK hl.1 (m_X1_hasContract l G aG γ x2 _ h) mw_X1_hasContract mi_X1_hasContract ml_X1_151 rfl ⟨rfl, rfl, Nat.le_of_ble_eq_true rfl, Nat.le_of_ble_eq_true rfl⟩ ⟨Nat.zero_le _, Nat.zero_le _⟩ (g_recv (a := aG) (k := 0) hK hG rfl rfl) hG hS (fun _ h => h.elim) rfl (Nat.le_of_ble_eq_true rfl) dX1_buyContract_10 (fun r3 u H locs h hu _ hq hS => ?_)
    have hG := hG.past hq (fun _ _ h => h)
    refine lv_if_ne (tgt := 19) hx hb dX1_buyContract_13 (by decide) (fun c4 => ?_) (fun c4 => ?_)
    · replace h := h.1 c4
      refine lv_aload_n hx hb dX1_buyContract_19 rfl (lv_at hl 0 rfl) ?_
      refine g_getR (a := aG) (k := 0) (o := 18) C hK hG fl_X1_35 rfl rfl dX1_buyContract_20 ?_
      refine g_getR (a := aG) (k := 18) (o := 19) C hK hG fl_X1_102 rfl rfl dX1_buyContract_23 ?_
      refine lv_iload_n hx hb dX1_buyContract_26 rfl (lv_at hl 2 rfl) ?_
      obtain ⟨b5, h⟩ := h
      refine g_ald (a := aG) (k := 19) (n := 6) C hK hG rfl b5 dX1_buyContract_27 ?_
      refine lv_topi (fun v6 ev6 => ?_)
      specialize h v6 ev6
      refine lv_istore_n (lv' := [(3, .int v6), (0, .ref (aG + 0)), (1, .int x1), (2, .int x2)]) hx hb dX1_buyContract_28 rfl hl (by decide) rfl (fun ls hl => ?_)
      refine lv_aload_n hx hb dX1_buyContract_29 rfl (lv_at hl 1 rfl) ?_
      refine g_getR (a := aG) (k := 0) (o := 1) C hK hG fl_X1_12 rfl rfl dX1_buyContract_30 ?_
      refine lv_iload_n hx hb dX1_buyContract_33 rfl (lv_at hl 2 rfl) ?_
      refine lv_iload_n hx hb dX1_buyContract_34 rfl (lv_at hl 0 rfl) ?_
      refine g_vI C hK hl.1 (m_X5_have l G aG γ x1 v6 _ h) mw_X5_have mi_X5_have ml_X1_121 rfl ⟨rfl, rfl, Nat.le_of_ble_eq_true rfl, Nat.le_of_ble_eq_true rfl⟩ ⟨Nat.zero_le _, Nat.zero_le _⟩ (g_recv (a := aG) (k := 1) hK hG rfl rfl) hG hS (fun _ h => h.elim) rfl (Nat.le_of_ble_eq_true rfl) dX1_buyContract_35 (fun r7 u H locs h hu _ hq hS => ?_)
      have hG := hG.past hq (fun _ _ h => h)
      refine lv_if_ne (tgt := 44) hx hb dX1_buyContract_38 (by decide) (fun c8 => ?_) (fun c8 => ?_)
      · replace h := h.1 c8
        refine lv_aload_n hx hb dX1_buyContract_44 rfl (lv_at hl 1 rfl) ?_
        refine g_getR (a := aG) (k := 0) (o := 1) C hK hG fl_X1_12 rfl rfl dX1_buyContract_45 ?_
        refine lv_iload_n hx hb dX1_buyContract_48 rfl (lv_at hl 2 rfl) ?_
        refine lv_iload_n hx hb dX1_buyContract_49 rfl (lv_at hl 0 rfl) ?_
        refine g_vV C hK hl.1 (m_X5_pay l G aG γ x1 v6 _ h) mw_X5_pay mi_X5_pay ml_X1_130 rfl ⟨rfl, rfl, Nat.le_of_ble_eq_true rfl, Nat.le_of_ble_eq_true rfl⟩ ⟨Nat.zero_le _, Nat.zero_le _⟩ (g_recv (a := aG) (k := 1) hK hG rfl rfl) hG hS (fun _ h => h) rfl (Nat.le_of_ble_eq_true rfl) dX1_buyContract_50 (fun u H locs h hu _ hq hS => ?_)
        obtain ⟨γ10, rfl⟩ : ∃ z, z = u := ⟨_, rfl⟩
        have hG := hu
        refine lv_aload_n hx hb dX1_buyContract_53 rfl (lv_at hl 1 rfl) ?_
        refine g_getR (a := aG) (k := 0) (o := 1) C hK hG fl_X1_12 rfl rfl dX1_buyContract_54 ?_
        refine g_getR (a := aG) (k := 1) (o := 3) C hK hG fl_X1_154 rfl rfl dX1_buyContract_57 ?_
        refine lv_iload_n hx hb dX1_buyContract_60 rfl (lv_at hl 2 rfl) ?_
        refine lv_dup2_11 hx hb dX1_buyContract_61 rfl rfl ?_
        obtain ⟨b11, h⟩ := h
        refine g_ald (a := aG) (k := 3) (n := 4) C hK hG rfl b11 dX1_buyContract_62 ?_
        refine lv_aload_n hx hb dX1_buyContract_63 rfl (lv_at hl 1 rfl) ?_
        refine g_getR (a := aG) (k := 0) (o := 18) C hK hG fl_X1_35 rfl rfl dX1_buyContract_64 ?_
        refine g_getR (a := aG) (k := 18) (o := 20) C hK hG fl_X1_105 rfl rfl dX1_buyContract_67 ?_
        refine lv_iload_n hx hb dX1_buyContract_70 rfl (lv_at hl 3 rfl) ?_
        refine g_ald (a := aG) (k := 20) (n := 6) C hK hG rfl b5 dX1_buyContract_71 ?_
        refine lv_iadd hx hb dX1_buyContract_72 ?_
        refine g_ast (a := aG) (k := 3) (n := 4) C hK hG hS rfl b11 (RA_in (by decide)) dX1_buyContract_73 (fun γ12 H locs eγ12 hG hS hq => ?_)
        specialize h γ12 eγ12
        refine lv_aload_n hx hb dX1_buyContract_74 rfl (lv_at hl 1 rfl) ?_
        refine g_getR (a := aG) (k := 0) (o := 18) C hK hG fl_X1_35 rfl rfl dX1_buyContract_75 ?_
        refine lv_iload_n hx hb dX1_buyContract_78 rfl (lv_at hl 3 rfl) ?_
        refine g_vV C hK hl.1 (m_X0_remove l G aG γ12 x2 _ h) mw_X0_remove mi_X0_remove ml_X1_155 rfl ⟨rfl, rfl, Nat.le_of_ble_eq_true rfl, Nat.le_of_ble_eq_true rfl⟩ ⟨Nat.zero_le _, Nat.zero_le _⟩ (g_recv (a := aG) (k := 18) hK hG rfl rfl) hG hS (fun _ h => h) rfl (Nat.le_of_ble_eq_true rfl) dX1_buyContract_79 (fun u H locs h hu _ hq hS => ?_)
        obtain ⟨γ14, rfl⟩ : ∃ z, z = u := ⟨_, rfl⟩
        have hG := hu
        refine lv_aload_n hx hb dX1_buyContract_82 rfl (lv_at hl 1 rfl) ?_
        refine g_getR (a := aG) (k := 0) (o := 1) C hK hG fl_X1_12 rfl rfl dX1_buyContract_83 ?_
        refine g_getR (a := aG) (k := 1) (o := 3) C hK hG fl_X1_154 rfl rfl dX1_buyContract_86 ?_
        refine lv_iload_n hx hb dX1_buyContract_89 rfl (lv_at hl 2 rfl) ?_
        refine g_ald (a := aG) (k := 3) (n := 4) C hK hG rfl b11 dX1_buyContract_90 ?_
        exact g_iret (post := Q) (P' := fun u H => rg G LG aG u H) (r := (γ14 3 x1.toNatClampNeg)) (u := γ14) C hr hK hS h hG dX1_buyContract_91
      · replace h := h.2 c8
        refine g_ldc C kc_X1_86 dX1_buyContract_41 ?_
        exact g_iret (post := Q) (P' := fun u H => rg G LG aG u H) (r := (-1000002)) (u := γ) C hr hK hS h hG dX1_buyContract_43
    · replace h := h.2 c4
      refine g_ldc C kc_X1_78 dX1_buyContract_16 ?_
      exact g_iret (post := Q) (P' := fun u H => rg G LG aG u H) (r := (-1000001)) (u := γ) C hr hK hS h hG dX1_buyContract_18
theorem dX1_advance_0 : decode cX1_advance 0 = .ok (.iconst 0, 1) := by decide +kernel
theorem dX1_advance_1 : decode cX1_advance 1 = .ok (.istore_n 2, 1) := by decide +kernel
theorem dX1_advance_2 : decode cX1_advance 2 = .ok (.iconst 0, 1) := by decide +kernel
theorem dX1_advance_3 : decode cX1_advance 3 = .ok (.istore_n 3, 1) := by decide +kernel
theorem dX1_advance_4 : decode cX1_advance 4 = .ok (.iload_n 3, 1) := by decide +kernel
theorem dX1_advance_5 : decode cX1_advance 5 = .ok (.iload_n 1, 1) := by decide +kernel
theorem dX1_advance_6 : decode cX1_advance 6 = .ok (.if_icmp .ge 141, 3) := by decide +kernel
theorem dX1_advance_9 : decode cX1_advance 9 = .ok (.iconst 1, 1) := by decide +kernel
theorem dX1_advance_10 : decode cX1_advance 10 = .ok (.iload_n 1, 1) := by decide +kernel
theorem dX1_advance_11 : decode cX1_advance 11 = .ok (.iload_n 3, 1) := by decide +kernel
theorem dX1_advance_12 : decode cX1_advance 12 = .ok (.isub, 1) := by decide +kernel
theorem dX1_advance_13 : decode cX1_advance 13 = .ok (.aload_n 0, 1) := by decide +kernel
theorem dX1_advance_14 : decode cX1_advance 14 = .ok (.getfield 21, 3) := by decide +kernel
theorem dX1_advance_17 : decode cX1_advance 17 = .ok (.invokevirtual 161, 3) := by decide +kernel
theorem dX1_advance_20 : decode cX1_advance 20 = .ok (.invokestatic 164, 3) := by decide +kernel
theorem dX1_advance_23 : decode cX1_advance 23 = .ok (.invokestatic 169, 3) := by decide +kernel
theorem dX1_advance_26 : decode cX1_advance 26 = .ok (.istore 4, 2) := by decide +kernel
theorem dX1_advance_28 : decode cX1_advance 28 = .ok (.iconst 0, 1) := by decide +kernel
theorem dX1_advance_29 : decode cX1_advance 29 = .ok (.istore 5, 2) := by decide +kernel
theorem dX1_advance_31 : decode cX1_advance 31 = .ok (.iload 5, 2) := by decide +kernel
theorem dX1_advance_33 : decode cX1_advance 33 = .ok (.iconst 3, 1) := by decide +kernel
theorem dX1_advance_34 : decode cX1_advance 34 = .ok (.aload_n 0, 1) := by decide +kernel
theorem dX1_advance_35 : decode cX1_advance 35 = .ok (.getfield 12, 3) := by decide +kernel
theorem dX1_advance_38 : decode cX1_advance 38 = .ok (.getfield 60, 3) := by decide +kernel
theorem dX1_advance_41 : decode cX1_advance 41 = .ok (.imul, 1) := by decide +kernel
theorem dX1_advance_42 : decode cX1_advance 42 = .ok (.if_icmp .ge 79, 3) := by decide +kernel
theorem dX1_advance_45 : decode cX1_advance 45 = .ok (.iload 5, 2) := by decide +kernel
theorem dX1_advance_47 : decode cX1_advance 47 = .ok (.bipush 12, 2) := by decide +kernel
theorem dX1_advance_49 : decode cX1_advance 49 = .ok (.if_icmp .ge 72, 3) := by decide +kernel
theorem dX1_advance_52 : decode cX1_advance 52 = .ok (.aload_n 0, 1) := by decide +kernel
theorem dX1_advance_53 : decode cX1_advance 53 = .ok (.getfield 21, 3) := by decide +kernel
theorem dX1_advance_56 : decode cX1_advance 56 = .ok (.iload 5, 2) := by decide +kernel
theorem dX1_advance_58 : decode cX1_advance 58 = .ok (.invokevirtual 83, 3) := by decide +kernel
theorem dX1_advance_61 : decode cX1_advance 61 = .ok (.ifCond .eq 21, 3) := by decide +kernel
theorem dX1_advance_64 : decode cX1_advance 64 = .ok (.aload_n 0, 1) := by decide +kernel
theorem dX1_advance_65 : decode cX1_advance 65 = .ok (.getfield 21, 3) := by decide +kernel
theorem dX1_advance_68 : decode cX1_advance 68 = .ok (.getfield 172, 3) := by decide +kernel
theorem dX1_advance_71 : decode cX1_advance 71 = .ok (.iload 5, 2) := by decide +kernel
theorem dX1_advance_73 : decode cX1_advance 73 = .ok (.dup2, 1) := by decide +kernel
theorem dX1_advance_74 : decode cX1_advance 74 = .ok (.iaload, 1) := by decide +kernel
theorem dX1_advance_75 : decode cX1_advance 75 = .ok (.iload 4, 2) := by decide +kernel
theorem dX1_advance_77 : decode cX1_advance 77 = .ok (.iadd, 1) := by decide +kernel
theorem dX1_advance_78 : decode cX1_advance 78 = .ok (.iastore, 1) := by decide +kernel
theorem dX1_advance_79 : decode cX1_advance 79 = .ok (.goto 36, 3) := by decide +kernel
theorem dX1_advance_82 : decode cX1_advance 82 = .ok (.aload_n 0, 1) := by decide +kernel
theorem dX1_advance_83 : decode cX1_advance 83 = .ok (.getfield 21, 3) := by decide +kernel
theorem dX1_advance_86 : decode cX1_advance 86 = .ok (.getfield 148, 3) := by decide +kernel
theorem dX1_advance_89 : decode cX1_advance 89 = .ok (.iload 5, 2) := by decide +kernel
theorem dX1_advance_91 : decode cX1_advance 91 = .ok (.iconst 0, 1) := by decide +kernel
theorem dX1_advance_92 : decode cX1_advance 92 = .ok (.aload_n 0, 1) := by decide +kernel
theorem dX1_advance_93 : decode cX1_advance 93 = .ok (.getfield 21, 3) := by decide +kernel
theorem dX1_advance_96 : decode cX1_advance 96 = .ok (.getfield 148, 3) := by decide +kernel
theorem dX1_advance_99 : decode cX1_advance 99 = .ok (.iload 5, 2) := by decide +kernel
theorem dX1_advance_101 : decode cX1_advance 101 = .ok (.iaload, 1) := by decide +kernel
theorem dX1_advance_102 : decode cX1_advance 102 = .ok (.iload 4, 2) := by decide +kernel
theorem dX1_advance_104 : decode cX1_advance 104 = .ok (.isub, 1) := by decide +kernel
theorem dX1_advance_105 : decode cX1_advance 105 = .ok (.invokestatic 169, 3) := by decide +kernel
theorem dX1_advance_108 : decode cX1_advance 108 = .ok (.iastore, 1) := by decide +kernel
theorem dX1_advance_109 : decode cX1_advance 109 = .ok (.aload_n 0, 1) := by decide +kernel
theorem dX1_advance_110 : decode cX1_advance 110 = .ok (.iload 5, 2) := by decide +kernel
theorem dX1_advance_112 : decode cX1_advance 112 = .ok (.invokevirtual 141, 3) := by decide +kernel
theorem dX1_advance_115 : decode cX1_advance 115 = .ok (.iinc 5 1, 3) := by decide +kernel
theorem dX1_advance_118 : decode cX1_advance 118 = .ok (.goto (-87), 3) := by decide +kernel
theorem dX1_advance_121 : decode cX1_advance 121 = .ok (.aload_n 0, 1) := by decide +kernel
theorem dX1_advance_122 : decode cX1_advance 122 = .ok (.dup, 1) := by decide +kernel
theorem dX1_advance_123 : decode cX1_advance 123 = .ok (.getfield 43, 3) := by decide +kernel
theorem dX1_advance_126 : decode cX1_advance 126 = .ok (.iload 4, 2) := by decide +kernel
theorem dX1_advance_128 : decode cX1_advance 128 = .ok (.iadd, 1) := by decide +kernel
theorem dX1_advance_129 : decode cX1_advance 129 = .ok (.putfield 43, 3) := by decide +kernel
theorem dX1_advance_132 : decode cX1_advance 132 = .ok (.iload_n 3, 1) := by decide +kernel
theorem dX1_advance_133 : decode cX1_advance 133 = .ok (.iload 4, 2) := by decide +kernel
theorem dX1_advance_135 : decode cX1_advance 135 = .ok (.iadd, 1) := by decide +kernel
theorem dX1_advance_136 : decode cX1_advance 136 = .ok (.istore_n 3, 1) := by decide +kernel
theorem dX1_advance_137 : decode cX1_advance 137 = .ok (.iload_n 2, 1) := by decide +kernel
theorem dX1_advance_138 : decode cX1_advance 138 = .ok (.aload_n 0, 1) := by decide +kernel
theorem dX1_advance_139 : decode cX1_advance 139 = .ok (.invokevirtual 144, 3) := by decide +kernel
theorem dX1_advance_142 : decode cX1_advance 142 = .ok (.iadd, 1) := by decide +kernel
theorem dX1_advance_143 : decode cX1_advance 143 = .ok (.istore_n 2, 1) := by decide +kernel
theorem dX1_advance_144 : decode cX1_advance 144 = .ok (.goto (-140), 3) := by decide +kernel
theorem dX1_advance_147 : decode cX1_advance 147 = .ok (.iload_n 2, 1) := by decide +kernel
theorem dX1_advance_148 : decode cX1_advance 148 = .ok (.ireturn, 1) := by decide +kernel
def vb_X1_advance_4 (Q : Int32 → Mem → Prop) (rec : Nat → Mem → Int32 → Int32 → Int32 → Int32 → Int32 → Prop) (γ : Mem) (w1 : Int32) (w2 : Int32) (w3 : Int32) : Prop :=
  ((w1 ≤ w3) → (Q w2 γ)) ∧ ((¬ w1 ≤ w3) → (vc_X2_untilNextOut (fun r2 => ∀ v3 : Int32, v3 = (if r2 < (w1 - w3) then r2 else (w1 - w3)) → (∀ v4 : Int32, v4 = (if 1 < v3 then v3 else 1) → (rec 1 γ w1 w2 w3 v4 0))) γ))
def vb_X1_advance_31 (Q : Int32 → Mem → Prop) (rec : Nat → Mem → Int32 → Int32 → Int32 → Int32 → Int32 → Prop) (γ : Mem) (w1 : Int32) (w2 : Int32) (w3 : Int32) (w4 : Int32) (w5 : Int32) : Prop :=
  (((3 * (γ 1 0)) ≤ w5) → (rec 2 γ w1 w2 w3 w4 0)) ∧ ((¬ (3 * (γ 1 0)) ≤ w5) → (((12 ≤ w5) → (rec 2 γ w1 w2 w3 w4 0)) ∧ ((¬ 12 ≤ w5) → (vc_X2_isOut (fun r7 => ((r7 = 0) → (vp_in w5 12 ∧ (∀ v10 : Int32, v10 = (if 0 < ((γ 7 w5.toNatClampNeg) - w4) then ((γ 7 w5.toNatClampNeg) - w4) else 0) → ((∀ γ11 : Mem, γ11 = up γ 7 w5.toNatClampNeg v10 → (vc_X1_addIfDue (fun γ13 => ∀ v14 : Int32, v14 = w5 + 1 → (rec 1 γ13 w1 w2 w3 w4 v14)) γ11 w5)))))) ∧ ((¬ r7 = 0) → (vp_in w5 12 ∧ ((∀ γ16 : Mem, γ16 = up γ 10 w5.toNatClampNeg ((γ 10 w5.toNatClampNeg) + w4) → (∀ v17 : Int32, v17 = w5 + 1 → (rec 1 γ16 w1 w2 w3 w4 v17))))))) γ w5))))
def vb_X1_advance_121 (Q : Int32 → Mem → Prop) (rec : Nat → Mem → Int32 → Int32 → Int32 → Int32 → Int32 → Prop) (γ : Mem) (w1 : Int32) (w2 : Int32) (w3 : Int32) (w4 : Int32) : Prop :=
  ∀ γ18 : Mem, γ18 = up γ 0 0 ((γ 0 0) + w4) → (∀ v19 : Int32, v19 = (w3 + w4) → (vc_X1_finishDue (fun r20 γ21 => ∀ v22 : Int32, v22 = (w2 + r20) → (rec 0 γ21 w1 v22 v19 0 0)) γ18))
def vl_X1_advance (Q : Int32 → Mem → Prop) : Nat → Nat → Mem → Int32 → Int32 → Int32 → Int32 → Int32 → Prop
  | 0, _, _, _, _, _, _, _ => False
  | n + 1, 0, γ, w1, w2, w3, _, _ => vb_X1_advance_4 Q (vl_X1_advance Q n) γ w1 w2 w3
  | n + 1, 1, γ, w1, w2, w3, w4, w5 => vb_X1_advance_31 Q (vl_X1_advance Q n) γ w1 w2 w3 w4 w5
  | n + 1, 2, γ, w1, w2, w3, w4, _ => vb_X1_advance_121 Q (vl_X1_advance Q n) γ w1 w2 w3 w4
  | _ + 1, _, _, _, _, _, _, _ => False
def vc_X1_advance (Q : Int32 → Mem → Prop) (γ : Mem) (x1 : Int32) : Prop :=
  ∃ n : Nat, vl_X1_advance Q n 0 γ x1 0 0 0 0
set_option maxHeartbeats 8000000 in
set_option maxRecDepth 100000 in
theorem m_X1_advance (l : Launch) (G : GG) (aG : Nat) (γ : Mem) (x1 : Int32) (Q : Int32 → Mem → Prop) (h : vc_X1_advance Q γ x1) : CtI l yX1_advance cX1_advance 6 (some .int) { frames := 3, cells := 0, slots := 0, locals := 70 } [.ref (aG + 0), .int x1] G (fun H => rg G LG aG γ H) (Q) (fun u H => rg G LG aG u H) (RA aG 22) := by
  unfold CtI
  refine met_start (y := yX1_advance) (maxL := 6) (av := [.ref (aG + 0), .int x1]) (G := G) (P := fun H => rg G LG aG γ H) (by decide) rfl (Nat.le_of_ble_eq_true rfl) (fun p e s m below meth c ls C hr hP hK hl => ?_)
  obtain ⟨hx, hb, hml, hown, hts, hlocks⟩ := id C
  have hG : rg G LG aG γ s.heap := hP
  have hS : va_S (RA aG 22) s.heap s.heap [] := va_S.rf
  have hl : lv_has ls 6 [(0, .ref (aG + 0)), (1, .int x1)] := hl
  have K : ∀ n : Nat, (∀ (γ : Mem) (w1 : Int32) (w2 : Int32) (w3 : Int32) (H : Heap) (locs : List Loc) (ls : Array Slot), rg G LG aG γ H → va_S (RA aG 22) s.heap H locs → lv_has ls 6 [(0, .ref (aG + 0)), (1, .int w1), (2, .int w2), (3, .int w3)] → vl_X1_advance Q n 0 γ w1 w2 w3 0 0 → W p l e { frames := 3, cells := 0, slots := 0, locals := 70 } s m [.ref (aG + 0), .int x1].toArray below meth c H locs 0 0 (MQ below (va_Qi (Q) (fun u t => (fun u H => rg G LG aG u H) u t.heap ∧ KK G t) (RA aG 22)) [.ref (aG + 0), .int x1].toArray s 0 0 (RA aG 22)) (F0 m 4 ls [])) ∧ (∀ (γ : Mem) (w1 : Int32) (w2 : Int32) (w3 : Int32) (w4 : Int32) (w5 : Int32) (H : Heap) (locs : List Loc) (ls : Array Slot), rg G LG aG γ H → va_S (RA aG 22) s.heap H locs → lv_has ls 6 [(0, .ref (aG + 0)), (1, .int w1), (2, .int w2), (3, .int w3), (4, .int w4), (5, .int w5)] → vl_X1_advance Q n 1 γ w1 w2 w3 w4 w5 → W p l e { frames := 3, cells := 0, slots := 0, locals := 70 } s m [.ref (aG + 0), .int x1].toArray below meth c H locs 0 0 (MQ below (va_Qi (Q) (fun u t => (fun u H => rg G LG aG u H) u t.heap ∧ KK G t) (RA aG 22)) [.ref (aG + 0), .int x1].toArray s 0 0 (RA aG 22)) (F0 m 31 ls [])) ∧ (∀ (γ : Mem) (w1 : Int32) (w2 : Int32) (w3 : Int32) (w4 : Int32) (H : Heap) (locs : List Loc) (ls : Array Slot), rg G LG aG γ H → va_S (RA aG 22) s.heap H locs → lv_has ls 6 [(0, .ref (aG + 0)), (1, .int w1), (2, .int w2), (3, .int w3), (4, .int w4)] → vl_X1_advance Q n 2 γ w1 w2 w3 w4 0 → W p l e { frames := 3, cells := 0, slots := 0, locals := 70 } s m [.ref (aG + 0), .int x1].toArray below meth c H locs 0 0 (MQ below (va_Qi (Q) (fun u t => (fun u H => rg G LG aG u H) u t.heap ∧ KK G t) (RA aG 22)) [.ref (aG + 0), .int x1].toArray s 0 0 (RA aG 22)) (F0 m 121 ls [])) := by
    intro n
    induction n with
    | zero => exact ⟨fun _ _ _ _ _ _ _ _ _ _ h => h.elim, fun _ _ _ _ _ _ _ _ _ _ _ _ h => h.elim, fun _ _ _ _ _ _ _ _ _ _ _ h => h.elim⟩
    | succ n ih =>
      refine ⟨?_, ?_, ?_⟩
      · intro γ w1 w2 w3 H locs ls hG hS hl h
        replace h : vb_X1_advance_4 Q (vl_X1_advance Q n) γ w1 w2 w3 := h
        unfold vb_X1_advance_4 at h
        refine lv_iload_n hx hb dX1_advance_4 rfl (lv_at hl 3 rfl) ?_
        refine lv_iload_n hx hb dX1_advance_5 rfl (lv_at hl 1 rfl) ?_
        refine lv_icmp_ge (tgt := 147) hx hb dX1_advance_6 (by decide) (fun c1 => ?_) (fun c1 => ?_)
        · replace h := h.1 c1
          refine lv_iload_n hx hb dX1_advance_147 rfl (lv_at hl 2 rfl) ?_
          exact g_iret (post := Q) (P' := fun u H => rg G LG aG u H) (r := w2) (u := γ) C hr hK hS h hG dX1_advance_148
        · replace h := h.2 c1
          refine lv_iconst (v := 1) hx hb dX1_advance_9 (by decide) ?_
          refine lv_iload_n hx hb dX1_advance_10 rfl (lv_at hl 1 rfl) ?_
          refine lv_iload_n hx hb dX1_advance_11 rfl (lv_at hl 3 rfl) ?_
          refine lv_isub hx hb dX1_advance_12 ?_
          refine lv_aload_n hx hb dX1_advance_13 rfl (lv_at hl 0 rfl) ?_
          refine g_getR (a := aG) (k := 0) (o := 4) C hK hG fl_X1_21 rfl rfl dX1_advance_14 ?_
          refine g_vI C hK hl.1 (m_X2_untilNextOut l G aG γ _ h) mw_X2_untilNextOut mi_X2_untilNextOut ml_X1_161 rfl ⟨rfl, rfl, Nat.le_of_ble_eq_true rfl, Nat.le_of_ble_eq_true rfl⟩ ⟨Nat.zero_le _, Nat.zero_le _⟩ (g_recv (a := aG) (k := 4) hK hG rfl rfl) hG hS (fun _ h => h.elim) rfl (Nat.le_of_ble_eq_true rfl) dX1_advance_17 (fun r2 u H locs h hu _ hq hS => ?_)
          have hG := hG.past hq (fun _ _ h => h)
          refine va_mmin hx hb (hml.trans hl.1.symm) hown (hts _ ml_X1_164) (hts _ math_min_s) (hts _ math_i) (hts _ math_min_c) (Nat.le_of_ble_eq_true rfl) (Nat.le_of_ble_eq_true rfl) (Nat.zero_le _) (Nat.zero_le _) dX1_advance_20 ?_
          refine lv_topi (fun v3 ev3 => ?_)
          specialize h v3 ev3
          refine va_mmax hx hb (hml.trans hl.1.symm) hown (hts _ ml_X1_169) (hts _ math_max_s) (hts _ math_i) (hts _ math_max_c) (Nat.le_of_ble_eq_true rfl) (Nat.le_of_ble_eq_true rfl) (Nat.zero_le _) (Nat.zero_le _) dX1_advance_23 ?_
          refine lv_topi (fun v4 ev4 => ?_)
          specialize h v4 ev4
          refine lv_istore (lv' := [(4, .int v4), (0, .ref (aG + 0)), (1, .int w1), (2, .int w2), (3, .int w3)]) hx hb dX1_advance_26 hl (by decide) rfl (fun ls hl => ?_)
          refine lv_iconst (v := 0) hx hb dX1_advance_28 (by decide) ?_
          refine lv_istore (lv' := [(5, .int 0), (4, .int v4), (0, .ref (aG + 0)), (1, .int w1), (2, .int w2), (3, .int w3)]) hx hb dX1_advance_29 hl (by decide) rfl (fun ls hl => ?_)
          exact (ih.2.1) γ w1 w2 w3 v4 0 _ _ _ hG hS (lv_sub hl [2, 3, 4, 5, 1, 0] rfl) h
      · intro γ w1 w2 w3 w4 w5 H locs ls hG hS hl h
        replace h : vb_X1_advance_31 Q (vl_X1_advance Q n) γ w1 w2 w3 w4 w5 := h
        unfold vb_X1_advance_31 at h
        refine lv_iload hx hb dX1_advance_31 (lv_at hl 5 rfl) ?_
        refine lv_iconst (v := 3) hx hb dX1_advance_33 (by decide) ?_
        refine lv_aload_n hx hb dX1_advance_34 rfl (lv_at hl 0 rfl) ?_
        refine g_getR (a := aG) (k := 0) (o := 1) C hK hG fl_X1_12 rfl rfl dX1_advance_35 ?_
        refine g_getI (a := aG) (k := 1) C hK hG fl_X1_60 rfl rfl dX1_advance_38 ?_
        refine lv_imul hx hb dX1_advance_41 ?_
        refine lv_icmp_ge (tgt := 121) hx hb dX1_advance_42 (by decide) (fun c5 => ?_) (fun c5 => ?_)
        · replace h := h.1 c5
          exact (ih.2.2) γ w1 w2 w3 w4 _ _ _ hG hS (lv_sub hl [0, 1, 2, 3, 4] rfl) h
        · replace h := h.2 c5
          refine lv_iload hx hb dX1_advance_45 (lv_at hl 5 rfl) ?_
          refine lv_bipush (v := 12) hx hb dX1_advance_47 (by decide) ?_
          refine lv_icmp_ge (tgt := 121) hx hb dX1_advance_49 (by decide) (fun c6 => ?_) (fun c6 => ?_)
          · replace h := h.1 c6
            exact (ih.2.2) γ w1 w2 w3 w4 _ _ _ hG hS (lv_sub hl [0, 1, 2, 3, 4] rfl) h
          · replace h := h.2 c6
            refine lv_aload_n hx hb dX1_advance_52 rfl (lv_at hl 0 rfl) ?_
            refine g_getR (a := aG) (k := 0) (o := 4) C hK hG fl_X1_21 rfl rfl dX1_advance_53 ?_
            refine lv_iload hx hb dX1_advance_56 (lv_at hl 5 rfl) ?_
            refine g_vI C hK hl.1 (m_X2_isOut l G aG γ w5 _ h) mw_X2_isOut mi_X2_isOut ml_X1_83 rfl ⟨rfl, rfl, Nat.le_of_ble_eq_true rfl, Nat.le_of_ble_eq_true rfl⟩ ⟨Nat.zero_le _, Nat.zero_le _⟩ (g_recv (a := aG) (k := 4) hK hG rfl rfl) hG hS (fun _ h => h.elim) rfl (Nat.le_of_ble_eq_true rfl) dX1_advance_58 (fun r7 u H locs h hu _ hq hS => ?_)
            have hG := hG.past hq (fun _ _ h => h)
            refine lv_if_eq (tgt := 82) hx hb dX1_advance_61 (by decide) (fun c8 => ?_) (fun c8 => ?_)
            · replace h := h.1 c8
              refine lv_aload_n hx hb dX1_advance_82 rfl (lv_at hl 0 rfl) ?_
              refine g_getR (a := aG) (k := 0) (o := 4) C hK hG fl_X1_21 rfl rfl dX1_advance_83 ?_
              refine g_getR (a := aG) (k := 4) (o := 7) C hK hG fl_X1_148 rfl rfl dX1_advance_86 ?_
              refine lv_iload hx hb dX1_advance_89 (lv_at hl 5 rfl) ?_
              refine lv_iconst (v := 0) hx hb dX1_advance_91 (by decide) ?_
              refine lv_aload_n hx hb dX1_advance_92 rfl (lv_at hl 0 rfl) ?_
              refine g_getR (a := aG) (k := 0) (o := 4) C hK hG fl_X1_21 rfl rfl dX1_advance_93 ?_
              refine g_getR (a := aG) (k := 4) (o := 7) C hK hG fl_X1_148 rfl rfl dX1_advance_96 ?_
              refine lv_iload hx hb dX1_advance_99 (lv_at hl 5 rfl) ?_
              obtain ⟨b9, h⟩ := h
              refine g_ald (a := aG) (k := 7) (n := 12) C hK hG rfl b9 dX1_advance_101 ?_
              refine lv_iload hx hb dX1_advance_102 (lv_at hl 4 rfl) ?_
              refine lv_isub hx hb dX1_advance_104 ?_
              refine va_mmax hx hb (hml.trans hl.1.symm) hown (hts _ ml_X1_169) (hts _ math_max_s) (hts _ math_i) (hts _ math_max_c) (Nat.le_of_ble_eq_true rfl) (Nat.le_of_ble_eq_true rfl) (Nat.zero_le _) (Nat.zero_le _) dX1_advance_105 ?_
              refine lv_topi (fun v10 ev10 => ?_)
              specialize h v10 ev10
              refine g_ast (a := aG) (k := 7) (n := 12) C hK hG hS rfl b9 (RA_in (by decide)) dX1_advance_108 (fun γ11 H locs eγ11 hG hS hq => ?_)
              specialize h γ11 eγ11
              refine lv_aload_n hx hb dX1_advance_109 rfl (lv_at hl 0 rfl) ?_
              refine lv_iload hx hb dX1_advance_110 (lv_at hl 5 rfl) ?_
              refine g_vV C hK hl.1 (m_X1_addIfDue l G aG γ11 w5 _ h) mw_X1_addIfDue mi_X1_addIfDue ml_X1_141 rfl ⟨rfl, rfl, Nat.le_of_ble_eq_true rfl, Nat.le_of_ble_eq_true rfl⟩ ⟨Nat.zero_le _, Nat.zero_le _⟩ (g_recv (a := aG) (k := 0) hK hG rfl rfl) hG hS (fun _ h => h) rfl (Nat.le_of_ble_eq_true rfl) dX1_advance_112 (fun u H locs h hu _ hq hS => ?_)
              obtain ⟨γ13, rfl⟩ : ∃ z, z = u := ⟨_, rfl⟩
              have hG := hu
              obtain ⟨v14, ev14⟩ : ∃ y : Int32, y = w5 + 1 := ⟨_, rfl⟩
              specialize h v14 ev14
              refine lv_iinc (v := v14) (lv' := [(5, .int v14), (0, .ref (aG + 0)), (1, .int w1), (2, .int w2), (3, .int w3), (4, .int w4)]) hx hb dX1_advance_115 hl (k := 5) rfl (by rw [ev14]; rfl) (by decide) rfl (fun ls hl => ?_)
              refine lv_goto (tgt := 31) hx hb dX1_advance_118 (by decide) ?_
              exact (ih.2.1) γ13 w1 w2 w3 w4 v14 _ _ _ hG hS (lv_sub hl [1, 2, 3, 4, 5, 0] rfl) h
            · replace h := h.2 c8
              refine lv_aload_n hx hb dX1_advance_64 rfl (lv_at hl 0 rfl) ?_
              refine g_getR (a := aG) (k := 0) (o := 4) C hK hG fl_X1_21 rfl rfl dX1_advance_65 ?_
              refine g_getR (a := aG) (k := 4) (o := 10) C hK hG fl_X1_172 rfl rfl dX1_advance_68 ?_
              refine lv_iload hx hb dX1_advance_71 (lv_at hl 5 rfl) ?_
              refine lv_dup2_11 hx hb dX1_advance_73 rfl rfl ?_
              obtain ⟨b15, h⟩ := h
              refine g_ald (a := aG) (k := 10) (n := 12) C hK hG rfl b15 dX1_advance_74 ?_
              refine lv_iload hx hb dX1_advance_75 (lv_at hl 4 rfl) ?_
              refine lv_iadd hx hb dX1_advance_77 ?_
              refine g_ast (a := aG) (k := 10) (n := 12) C hK hG hS rfl b15 (RA_in (by decide)) dX1_advance_78 (fun γ16 H locs eγ16 hG hS hq => ?_)
              specialize h γ16 eγ16
              refine lv_goto (tgt := 115) hx hb dX1_advance_79 (by decide) ?_
              obtain ⟨v17, ev17⟩ : ∃ y : Int32, y = w5 + 1 := ⟨_, rfl⟩
              specialize h v17 ev17
              refine lv_iinc (v := v17) (lv' := [(5, .int v17), (0, .ref (aG + 0)), (1, .int w1), (2, .int w2), (3, .int w3), (4, .int w4)]) hx hb dX1_advance_115 hl (k := 5) rfl (by rw [ev17]; rfl) (by decide) rfl (fun ls hl => ?_)
              refine lv_goto (tgt := 31) hx hb dX1_advance_118 (by decide) ?_
              exact (ih.2.1) γ16 w1 w2 w3 w4 v17 _ _ _ hG hS (lv_sub hl [1, 2, 3, 4, 5, 0] rfl) h
      · intro γ w1 w2 w3 w4 H locs ls hG hS hl h
        replace h : vb_X1_advance_121 Q (vl_X1_advance Q n) γ w1 w2 w3 w4 := h
        unfold vb_X1_advance_121 at h
        refine lv_aload_n hx hb dX1_advance_121 rfl (lv_at hl 0 rfl) ?_
        refine lv_dup hx hb dX1_advance_122 rfl ?_
        refine g_getI (a := aG) (k := 0) C hK hG fl_X1_43 rfl rfl dX1_advance_123 ?_
        refine lv_iload hx hb dX1_advance_126 (lv_at hl 4 rfl) ?_
        refine lv_iadd hx hb dX1_advance_128 ?_
        refine g_put (a := aG) (k := 0) C hK hG hS fl_X1_43 fp_X1_0 rfl rfl (by rfl) (by rfl) (RA_in (by decide)) dX1_advance_129 (fun γ18 H locs eγ18 hG hS hq => ?_)
        specialize h γ18 eγ18
        refine lv_iload_n hx hb dX1_advance_132 rfl (lv_at hl 3 rfl) ?_
        refine lv_iload hx hb dX1_advance_133 (lv_at hl 4 rfl) ?_
        refine lv_iadd hx hb dX1_advance_135 ?_
        refine lv_topi (fun v19 ev19 => ?_)
        specialize h v19 ev19
        refine lv_istore_n (lv' := [(3, .int v19), (0, .ref (aG + 0)), (1, .int w1), (2, .int w2), (4, .int w4)]) hx hb dX1_advance_136 rfl hl (by decide) rfl (fun ls hl => ?_)
        refine lv_iload_n hx hb dX1_advance_137 rfl (lv_at hl 3 rfl) ?_
        refine lv_aload_n hx hb dX1_advance_138 rfl (lv_at hl 1 rfl) ?_
        refine g_vI C hK hl.1 (m_X1_finishDue l G aG γ18 _ h) mw_X1_finishDue mi_X1_finishDue ml_X1_144 rfl ⟨rfl, rfl, Nat.le_of_ble_eq_true rfl, Nat.le_of_ble_eq_true rfl⟩ ⟨Nat.zero_le _, Nat.zero_le _⟩ (g_recv (a := aG) (k := 0) hK hG rfl rfl) hG hS (fun _ h => h) rfl (Nat.le_of_ble_eq_true rfl) dX1_advance_139 (fun r20 u H locs h hu _ hq hS => ?_)
        obtain ⟨γ21, rfl⟩ : ∃ z, z = u := ⟨_, rfl⟩
        have hG := hu
        refine lv_iadd hx hb dX1_advance_142 ?_
        refine lv_topi (fun v22 ev22 => ?_)
        specialize h v22 ev22
        refine lv_istore_n (lv' := [(2, .int v22), (3, .int v19), (0, .ref (aG + 0)), (1, .int w1), (4, .int w4)]) hx hb dX1_advance_143 rfl hl (by decide) rfl (fun ls hl => ?_)
        refine lv_goto (tgt := 4) hx hb dX1_advance_144 (by decide) ?_
        exact (ih.1) γ21 w1 v22 v19 _ _ _ hG hS (lv_sub hl [2, 3, 0, 1] rfl) h
  unfold vc_X1_advance at h
  obtain ⟨n, h⟩ := h
  refine lv_iconst (v := 0) hx hb dX1_advance_0 (by decide) ?_
  refine lv_istore_n (lv' := [(2, .int 0), (0, .ref (aG + 0)), (1, .int x1)]) hx hb dX1_advance_1 rfl hl (by decide) rfl (fun ls hl => ?_)
  refine lv_iconst (v := 0) hx hb dX1_advance_2 (by decide) ?_
  refine lv_istore_n (lv' := [(3, .int 0), (2, .int 0), (0, .ref (aG + 0)), (1, .int x1)]) hx hb dX1_advance_3 rfl hl (by decide) rfl (fun ls hl => ?_)
  exact ((K n).1) γ x1 0 0 _ _ _ hG hS (lv_sub hl [2, 3, 1, 0] rfl) h
end
section
theorem dX1_letPass_0 : decode cX1_letPass 0 = .ok (.iload_n 1, 1) := by decide +kernel
theorem dX1_letPass_1 : decode cX1_letPass 1 = .ok (.iconst 1, 1) := by decide +kernel
theorem dX1_letPass_2 : decode cX1_letPass 2 = .ok (.sipush 600, 3) := by decide +kernel
theorem dX1_letPass_5 : decode cX1_letPass 5 = .ok (.invokestatic 63, 3) := by decide +kernel
theorem dX1_letPass_8 : decode cX1_letPass 8 = .ok (.ifCond .ne 6, 3) := by decide +kernel
theorem dX1_letPass_11 : decode cX1_letPass 11 = .ok (.ldc 78, 2) := by decide +kernel
theorem dX1_letPass_13 : decode cX1_letPass 13 = .ok (.ireturn, 1) := by decide +kernel
theorem dX1_letPass_14 : decode cX1_letPass 14 = .ok (.aload_n 0, 1) := by decide +kernel
theorem dX1_letPass_15 : decode cX1_letPass 15 = .ok (.getfield 43, 3) := by decide +kernel
theorem dX1_letPass_18 : decode cX1_letPass 18 = .ok (.iload_n 1, 1) := by decide +kernel
theorem dX1_letPass_19 : decode cX1_letPass 19 = .ok (.iadd, 1) := by decide +kernel
theorem dX1_letPass_20 : decode cX1_letPass 20 = .ok (.sipush 9999, 3) := by decide +kernel
theorem dX1_letPass_23 : decode cX1_letPass 23 = .ok (.if_icmp .le 6, 3) := by decide +kernel
theorem dX1_letPass_26 : decode cX1_letPass 26 = .ok (.ldc 73, 2) := by decide +kernel
theorem dX1_letPass_28 : decode cX1_letPass 28 = .ok (.ireturn, 1) := by decide +kernel
theorem dX1_letPass_29 : decode cX1_letPass 29 = .ok (.aload_n 0, 1) := by decide +kernel
theorem dX1_letPass_30 : decode cX1_letPass 30 = .ok (.iload_n 1, 1) := by decide +kernel
theorem dX1_letPass_31 : decode cX1_letPass 31 = .ok (.invokevirtual 158, 3) := by decide +kernel
theorem dX1_letPass_34 : decode cX1_letPass 34 = .ok (.ireturn, 1) := by decide +kernel
def vc_X1_letPass (Q : Int32 → Mem → Prop) (γ : Mem) (x1 : Int32) : Prop :=
  vc_X7_within (fun r1 => ((¬ r1 = 0) → (((((γ 0 0) + x1) ≤ 9999) → (vc_X1_advance (fun r4 γ5 => Q r4 γ5) γ x1)) ∧ ((¬ ((γ 0 0) + x1) ≤ 9999) → (Q (-1000003) γ)))) ∧ ((r1 = 0) → (Q (-1000001) γ))) x1 1 600
set_option maxHeartbeats 8000000 in
set_option maxRecDepth 100000 in
theorem m_X1_letPass (l : Launch) (G : GG) (aG : Nat) (γ : Mem) (x1 : Int32) (Q : Int32 → Mem → Prop) (h : vc_X1_letPass Q γ x1) : CtI l yX1_letPass cX1_letPass 2 (some .int) { frames := 4, cells := 0, slots := 0, locals := 95 } [.ref (aG + 0), .int x1] G (fun H => rg G LG aG γ H) (Q) (fun u H => rg G LG aG u H) (RA aG 22) := by
  unfold CtI
  refine met_start (y := yX1_letPass) (maxL := 2) (av := [.ref (aG + 0), .int x1]) (G := G) (P := fun H => rg G LG aG γ H) (by decide) rfl (Nat.le_of_ble_eq_true rfl) (fun p e s m below meth c ls C hr hP hK hl => ?_)
  obtain ⟨hx, hb, hml, hown, hts, hlocks⟩ := id C
  have hG : rg G LG aG γ s.heap := hP
  have hS : va_S (RA aG 22) s.heap s.heap [] := va_S.rf
  have hl : lv_has ls 2 [(0, .ref (aG + 0)), (1, .int x1)] := hl
  unfold vc_X1_letPass at h
  refine lv_iload_n hx hb dX1_letPass_0 rfl (lv_at hl 1 rfl) ?_
  refine lv_iconst (v := 1) hx hb dX1_letPass_1 (by decide) ?_
  refine lv_sipush (v := 600) hx hb dX1_letPass_2 (by decide) ?_
  refine g_nI C hK hl.1 (m_X7_within l G x1 1 600 _ h) mw_X7_within ms_X7_within nl_X1_63 rfl ⟨rfl, rfl, Nat.le_of_ble_eq_true rfl, Nat.le_of_ble_eq_true rfl⟩ ⟨Nat.zero_le _, Nat.zero_le _⟩ trivial hS (fun _ h => h.elim) rfl (Nat.le_of_ble_eq_true rfl) dX1_letPass_5 (fun r1 u H locs h hu _ hq hS => ?_)
  have hG := hG.past hq (fun _ _ h => h)
  refine lv_if_ne (tgt := 14) hx hb dX1_letPass_8 (by decide) (fun c2 => ?_) (fun c2 => ?_)
  · replace h := h.1 c2
    refine lv_aload_n hx hb dX1_letPass_14 rfl (lv_at hl 0 rfl) ?_
    refine g_getI (a := aG) (k := 0) C hK hG fl_X1_43 rfl rfl dX1_letPass_15 ?_
    refine lv_iload_n hx hb dX1_letPass_18 rfl (lv_at hl 1 rfl) ?_
    refine lv_iadd hx hb dX1_letPass_19 ?_
    refine lv_sipush (v := 9999) hx hb dX1_letPass_20 (by decide) ?_
    refine lv_icmp_le (tgt := 29) hx hb dX1_letPass_23 (by decide) (fun c3 => ?_) (fun c3 => ?_)
    · replace h := h.1 c3
      refine lv_aload_n hx hb dX1_letPass_29 rfl (lv_at hl 0 rfl) ?_
      refine lv_iload_n hx hb dX1_letPass_30 rfl (lv_at hl 1 rfl) ?_
      refine g_vI C hK hl.1 (m_X1_advance l G aG γ x1 _ h) mw_X1_advance mi_X1_advance ml_X1_158 rfl ⟨rfl, rfl, Nat.le_of_ble_eq_true rfl, Nat.le_of_ble_eq_true rfl⟩ ⟨Nat.zero_le _, Nat.zero_le _⟩ (g_recv (a := aG) (k := 0) hK hG rfl rfl) hG hS (fun _ h => h) rfl (Nat.le_of_ble_eq_true rfl) dX1_letPass_31 (fun r4 u H locs h hu _ hq hS => ?_)
      obtain ⟨γ5, rfl⟩ : ∃ z, z = u := ⟨_, rfl⟩
      have hG := hu
      exact g_iret (post := Q) (P' := fun u H => rg G LG aG u H) (r := r4) (u := γ5) C hr hK hS h hG dX1_letPass_34
    · replace h := h.2 c3
      refine g_ldc C kc_X1_73 dX1_letPass_26 ?_
      exact g_iret (post := Q) (P' := fun u H => rg G LG aG u H) (r := (-1000003)) (u := γ) C hr hK hS h hG dX1_letPass_28
  · replace h := h.2 c2
    refine g_ldc C kc_X1_78 dX1_letPass_11 ?_
    exact g_iret (post := Q) (P' := fun u H => rg G LG aG u H) (r := (-1000001)) (u := γ) C hr hK hS h hG dX1_letPass_13
theorem dX1_untilOneIsOut_0 : decode cX1_untilOneIsOut 0 = .ok (.aload_n 0, 1) := by decide +kernel
theorem dX1_untilOneIsOut_1 : decode cX1_untilOneIsOut 1 = .ok (.getfield 21, 3) := by decide +kernel
theorem dX1_untilOneIsOut_4 : decode cX1_untilOneIsOut 4 = .ok (.iload_n 1, 1) := by decide +kernel
theorem dX1_untilOneIsOut_5 : decode cX1_untilOneIsOut 5 = .ok (.invokevirtual 187, 3) := by decide +kernel
theorem dX1_untilOneIsOut_8 : decode cX1_untilOneIsOut 8 = .ok (.iconst 3, 1) := by decide +kernel
theorem dX1_untilOneIsOut_9 : decode cX1_untilOneIsOut 9 = .ok (.if_icmp .ne 6, 3) := by decide +kernel
theorem dX1_untilOneIsOut_12 : decode cX1_untilOneIsOut 12 = .ok (.ldc 190, 2) := by decide +kernel
theorem dX1_untilOneIsOut_14 : decode cX1_untilOneIsOut 14 = .ok (.ireturn, 1) := by decide +kernel
theorem dX1_untilOneIsOut_15 : decode cX1_untilOneIsOut 15 = .ok (.aload_n 0, 1) := by decide +kernel
theorem dX1_untilOneIsOut_16 : decode cX1_untilOneIsOut 16 = .ok (.getfield 21, 3) := by decide +kernel
theorem dX1_untilOneIsOut_19 : decode cX1_untilOneIsOut 19 = .ok (.iload_n 1, 1) := by decide +kernel
theorem dX1_untilOneIsOut_20 : decode cX1_untilOneIsOut 20 = .ok (.invokevirtual 191, 3) := by decide +kernel
theorem dX1_untilOneIsOut_23 : decode cX1_untilOneIsOut 23 = .ok (.istore_n 2, 1) := by decide +kernel
theorem dX1_untilOneIsOut_24 : decode cX1_untilOneIsOut 24 = .ok (.iconst 0, 1) := by decide +kernel
theorem dX1_untilOneIsOut_25 : decode cX1_untilOneIsOut 25 = .ok (.istore_n 3, 1) := by decide +kernel
theorem dX1_untilOneIsOut_26 : decode cX1_untilOneIsOut 26 = .ok (.iconst 0, 1) := by decide +kernel
theorem dX1_untilOneIsOut_27 : decode cX1_untilOneIsOut 27 = .ok (.istore 4, 2) := by decide +kernel
theorem dX1_untilOneIsOut_29 : decode cX1_untilOneIsOut 29 = .ok (.iload 4, 2) := by decide +kernel
theorem dX1_untilOneIsOut_31 : decode cX1_untilOneIsOut 31 = .ok (.bipush 12, 2) := by decide +kernel
theorem dX1_untilOneIsOut_33 : decode cX1_untilOneIsOut 33 = .ok (.if_icmp .ge 42, 3) := by decide +kernel
theorem dX1_untilOneIsOut_36 : decode cX1_untilOneIsOut 36 = .ok (.aload_n 0, 1) := by decide +kernel
theorem dX1_untilOneIsOut_37 : decode cX1_untilOneIsOut 37 = .ok (.getfield 21, 3) := by decide +kernel
theorem dX1_untilOneIsOut_40 : decode cX1_untilOneIsOut 40 = .ok (.iload_n 1, 1) := by decide +kernel
theorem dX1_untilOneIsOut_41 : decode cX1_untilOneIsOut 41 = .ok (.invokevirtual 191, 3) := by decide +kernel
theorem dX1_untilOneIsOut_44 : decode cX1_untilOneIsOut 44 = .ok (.iload_n 2, 1) := by decide +kernel
theorem dX1_untilOneIsOut_45 : decode cX1_untilOneIsOut 45 = .ok (.if_icmp .ne 30, 3) := by decide +kernel
theorem dX1_untilOneIsOut_48 : decode cX1_untilOneIsOut 48 = .ok (.aload_n 0, 1) := by decide +kernel
theorem dX1_untilOneIsOut_49 : decode cX1_untilOneIsOut 49 = .ok (.getfield 21, 3) := by decide +kernel
theorem dX1_untilOneIsOut_52 : decode cX1_untilOneIsOut 52 = .ok (.invokevirtual 161, 3) := by decide +kernel
theorem dX1_untilOneIsOut_55 : decode cX1_untilOneIsOut 55 = .ok (.istore 5, 2) := by decide +kernel
theorem dX1_untilOneIsOut_57 : decode cX1_untilOneIsOut 57 = .ok (.aload_n 0, 1) := by decide +kernel
theorem dX1_untilOneIsOut_58 : decode cX1_untilOneIsOut 58 = .ok (.iload 5, 2) := by decide +kernel
theorem dX1_untilOneIsOut_60 : decode cX1_untilOneIsOut 60 = .ok (.invokevirtual 158, 3) := by decide +kernel
theorem dX1_untilOneIsOut_63 : decode cX1_untilOneIsOut 63 = .ok (.pop, 1) := by decide +kernel
theorem dX1_untilOneIsOut_64 : decode cX1_untilOneIsOut 64 = .ok (.iload_n 3, 1) := by decide +kernel
theorem dX1_untilOneIsOut_65 : decode cX1_untilOneIsOut 65 = .ok (.iload 5, 2) := by decide +kernel
theorem dX1_untilOneIsOut_67 : decode cX1_untilOneIsOut 67 = .ok (.iadd, 1) := by decide +kernel
theorem dX1_untilOneIsOut_68 : decode cX1_untilOneIsOut 68 = .ok (.istore_n 3, 1) := by decide +kernel
theorem dX1_untilOneIsOut_69 : decode cX1_untilOneIsOut 69 = .ok (.iinc 4 1, 3) := by decide +kernel
theorem dX1_untilOneIsOut_72 : decode cX1_untilOneIsOut 72 = .ok (.goto (-43), 3) := by decide +kernel
theorem dX1_untilOneIsOut_75 : decode cX1_untilOneIsOut 75 = .ok (.iload_n 3, 1) := by decide +kernel
theorem dX1_untilOneIsOut_76 : decode cX1_untilOneIsOut 76 = .ok (.ireturn, 1) := by decide +kernel
def vb_X1_untilOneIsOut_29 (Q : Int32 → Mem → Prop) (rec : Nat → Mem → Int32 → Int32 → Int32 → Int32 → Prop) (γ : Mem) (w1 : Int32) (w2 : Int32) (w3 : Int32) (w4 : Int32) : Prop :=
  ((12 ≤ w4) → (Q w3 γ)) ∧ ((¬ 12 ≤ w4) → (vc_X2_worksOf (fun r5 => ((¬ r5 = w2) → (Q w3 γ)) ∧ ((r5 = w2) → (vc_X2_untilNextOut (fun r7 => vc_X1_advance (fun r8 γ9 => ∀ v10 : Int32, v10 = (w3 + r7) → (∀ v11 : Int32, v11 = w4 + 1 → (rec 0 γ9 w1 w2 v10 v11))) γ r7) γ))) γ w1))
def vl_X1_untilOneIsOut (Q : Int32 → Mem → Prop) : Nat → Nat → Mem → Int32 → Int32 → Int32 → Int32 → Prop
  | 0, _, _, _, _, _, _ => False
  | n + 1, 0, γ, w1, w2, w3, w4 => vb_X1_untilOneIsOut_29 Q (vl_X1_untilOneIsOut Q n) γ w1 w2 w3 w4
  | _ + 1, _, _, _, _, _, _ => False
def vc_X1_untilOneIsOut (Q : Int32 → Mem → Prop) (γ : Mem) (x1 : Int32) : Prop :=
  ∃ n : Nat, vc_X2_outOf (fun r1 => ((¬ r1 = 3) → (vc_X2_worksOf (fun r3 => vl_X1_untilOneIsOut Q n 0 γ x1 r3 0 0) γ x1)) ∧ ((r1 = 3) → (Q (-1000004) γ))) γ x1
set_option maxHeartbeats 8000000 in
set_option maxRecDepth 100000 in
theorem m_X1_untilOneIsOut (l : Launch) (G : GG) (aG : Nat) (γ : Mem) (x1 : Int32) (Q : Int32 → Mem → Prop) (h : vc_X1_untilOneIsOut Q γ x1) : CtI l yX1_untilOneIsOut cX1_untilOneIsOut 6 (some .int) { frames := 4, cells := 0, slots := 0, locals := 95 } [.ref (aG + 0), .int x1] G (fun H => rg G LG aG γ H) (Q) (fun u H => rg G LG aG u H) (RA aG 22) := by
  unfold CtI
  refine met_start (y := yX1_untilOneIsOut) (maxL := 6) (av := [.ref (aG + 0), .int x1]) (G := G) (P := fun H => rg G LG aG γ H) (by decide) rfl (Nat.le_of_ble_eq_true rfl) (fun p e s m below meth c ls C hr hP hK hl => ?_)
  obtain ⟨hx, hb, hml, hown, hts, hlocks⟩ := id C
  have hG : rg G LG aG γ s.heap := hP
  have hS : va_S (RA aG 22) s.heap s.heap [] := va_S.rf
  have hl : lv_has ls 6 [(0, .ref (aG + 0)), (1, .int x1)] := hl
  have K : ∀ n : Nat, (∀ (γ : Mem) (w1 : Int32) (w2 : Int32) (w3 : Int32) (w4 : Int32) (H : Heap) (locs : List Loc) (ls : Array Slot), rg G LG aG γ H → va_S (RA aG 22) s.heap H locs → lv_has ls 6 [(0, .ref (aG + 0)), (1, .int w1), (2, .int w2), (3, .int w3), (4, .int w4)] → vl_X1_untilOneIsOut Q n 0 γ w1 w2 w3 w4 → W p l e { frames := 4, cells := 0, slots := 0, locals := 95 } s m [.ref (aG + 0), .int x1].toArray below meth c H locs 0 0 (MQ below (va_Qi (Q) (fun u t => (fun u H => rg G LG aG u H) u t.heap ∧ KK G t) (RA aG 22)) [.ref (aG + 0), .int x1].toArray s 0 0 (RA aG 22)) (F0 m 29 ls [])) := by
    intro n
    induction n with
    | zero => exact fun _ _ _ _ _ _ _ _ _ _ _ h => h.elim
    | succ n ih =>
      · intro γ w1 w2 w3 w4 H locs ls hG hS hl h
        replace h : vb_X1_untilOneIsOut_29 Q (vl_X1_untilOneIsOut Q n) γ w1 w2 w3 w4 := h
        unfold vb_X1_untilOneIsOut_29 at h
        refine lv_iload hx hb dX1_untilOneIsOut_29 (lv_at hl 4 rfl) ?_
        refine lv_bipush (v := 12) hx hb dX1_untilOneIsOut_31 (by decide) ?_
        refine lv_icmp_ge (tgt := 75) hx hb dX1_untilOneIsOut_33 (by decide) (fun c4 => ?_) (fun c4 => ?_)
        · replace h := h.1 c4
          refine lv_iload_n hx hb dX1_untilOneIsOut_75 rfl (lv_at hl 3 rfl) ?_
          exact g_iret (post := Q) (P' := fun u H => rg G LG aG u H) (r := w3) (u := γ) C hr hK hS h hG dX1_untilOneIsOut_76
        · replace h := h.2 c4
          refine lv_aload_n hx hb dX1_untilOneIsOut_36 rfl (lv_at hl 0 rfl) ?_
          refine g_getR (a := aG) (k := 0) (o := 4) C hK hG fl_X1_21 rfl rfl dX1_untilOneIsOut_37 ?_
          refine lv_iload_n hx hb dX1_untilOneIsOut_40 rfl (lv_at hl 1 rfl) ?_
          refine g_vI C hK hl.1 (m_X2_worksOf l G aG γ w1 _ h) mw_X2_worksOf mi_X2_worksOf ml_X1_191 rfl ⟨rfl, rfl, Nat.le_of_ble_eq_true rfl, Nat.le_of_ble_eq_true rfl⟩ ⟨Nat.zero_le _, Nat.zero_le _⟩ (g_recv (a := aG) (k := 4) hK hG rfl rfl) hG hS (fun _ h => h.elim) rfl (Nat.le_of_ble_eq_true rfl) dX1_untilOneIsOut_41 (fun r5 u H locs h hu _ hq hS => ?_)
          have hG := hG.past hq (fun _ _ h => h)
          refine lv_iload_n hx hb dX1_untilOneIsOut_44 rfl (lv_at hl 2 rfl) ?_
          refine lv_icmp_ne (tgt := 75) hx hb dX1_untilOneIsOut_45 (by decide) (fun c6 => ?_) (fun c6 => ?_)
          · replace h := h.1 c6
            refine lv_iload_n hx hb dX1_untilOneIsOut_75 rfl (lv_at hl 3 rfl) ?_
            exact g_iret (post := Q) (P' := fun u H => rg G LG aG u H) (r := w3) (u := γ) C hr hK hS h hG dX1_untilOneIsOut_76
          · replace h := h.2 c6
            refine lv_aload_n hx hb dX1_untilOneIsOut_48 rfl (lv_at hl 0 rfl) ?_
            refine g_getR (a := aG) (k := 0) (o := 4) C hK hG fl_X1_21 rfl rfl dX1_untilOneIsOut_49 ?_
            refine g_vI C hK hl.1 (m_X2_untilNextOut l G aG γ _ h) mw_X2_untilNextOut mi_X2_untilNextOut ml_X1_161 rfl ⟨rfl, rfl, Nat.le_of_ble_eq_true rfl, Nat.le_of_ble_eq_true rfl⟩ ⟨Nat.zero_le _, Nat.zero_le _⟩ (g_recv (a := aG) (k := 4) hK hG rfl rfl) hG hS (fun _ h => h.elim) rfl (Nat.le_of_ble_eq_true rfl) dX1_untilOneIsOut_52 (fun r7 u H locs h hu _ hq hS => ?_)
            have hG := hG.past hq (fun _ _ h => h)
            refine lv_istore (lv' := [(5, .int r7), (0, .ref (aG + 0)), (1, .int w1), (2, .int w2), (3, .int w3), (4, .int w4)]) hx hb dX1_untilOneIsOut_55 hl (by decide) rfl (fun ls hl => ?_)
            refine lv_aload_n hx hb dX1_untilOneIsOut_57 rfl (lv_at hl 1 rfl) ?_
            refine lv_iload hx hb dX1_untilOneIsOut_58 (lv_at hl 0 rfl) ?_
            refine g_vI C hK hl.1 (m_X1_advance l G aG γ r7 _ h) mw_X1_advance mi_X1_advance ml_X1_158 rfl ⟨rfl, rfl, Nat.le_of_ble_eq_true rfl, Nat.le_of_ble_eq_true rfl⟩ ⟨Nat.zero_le _, Nat.zero_le _⟩ (g_recv (a := aG) (k := 0) hK hG rfl rfl) hG hS (fun _ h => h) rfl (Nat.le_of_ble_eq_true rfl) dX1_untilOneIsOut_60 (fun r8 u H locs h hu _ hq hS => ?_)
            obtain ⟨γ9, rfl⟩ : ∃ z, z = u := ⟨_, rfl⟩
            have hG := hu
            refine lv_pop hx hb dX1_untilOneIsOut_63 rfl ?_
            refine lv_iload_n hx hb dX1_untilOneIsOut_64 rfl (lv_at hl 4 rfl) ?_
            refine lv_iload hx hb dX1_untilOneIsOut_65 (lv_at hl 0 rfl) ?_
            refine lv_iadd hx hb dX1_untilOneIsOut_67 ?_
            refine lv_topi (fun v10 ev10 => ?_)
            specialize h v10 ev10
            refine lv_istore_n (lv' := [(3, .int v10), (5, .int r7), (0, .ref (aG + 0)), (1, .int w1), (2, .int w2), (4, .int w4)]) hx hb dX1_untilOneIsOut_68 rfl hl (by decide) rfl (fun ls hl => ?_)
            obtain ⟨v11, ev11⟩ : ∃ y : Int32, y = w4 + 1 := ⟨_, rfl⟩
            specialize h v11 ev11
            refine lv_iinc (v := v11) (lv' := [(4, .int v11), (3, .int v10), (5, .int r7), (0, .ref (aG + 0)), (1, .int w1), (2, .int w2)]) hx hb dX1_untilOneIsOut_69 hl (k := 5) rfl (by rw [ev11]; rfl) (by decide) rfl (fun ls hl => ?_)
            refine lv_goto (tgt := 29) hx hb dX1_untilOneIsOut_72 (by decide) ?_
            exact (ih) γ9 w1 w2 v10 v11 _ _ _ hG hS (lv_sub hl [3, 4, 5, 1, 0] rfl) h
  unfold vc_X1_untilOneIsOut at h
  obtain ⟨n, h⟩ := h
  refine lv_aload_n hx hb dX1_untilOneIsOut_0 rfl (lv_at hl 0 rfl) ?_
  refine g_getR (a := aG) (k := 0) (o := 4) C hK hG fl_X1_21 rfl rfl dX1_untilOneIsOut_1 ?_
  refine lv_iload_n hx hb dX1_untilOneIsOut_4 rfl (lv_at hl 1 rfl) ?_
  refine g_vI C hK hl.1 (m_X2_outOf l G aG γ x1 _ h) mw_X2_outOf mi_X2_outOf ml_X1_187 rfl ⟨rfl, rfl, Nat.le_of_ble_eq_true rfl, Nat.le_of_ble_eq_true rfl⟩ ⟨Nat.zero_le _, Nat.zero_le _⟩ (g_recv (a := aG) (k := 4) hK hG rfl rfl) hG hS (fun _ h => h.elim) rfl (Nat.le_of_ble_eq_true rfl) dX1_untilOneIsOut_5 (fun r1 u H locs h hu _ hq hS => ?_)
  have hG := hG.past hq (fun _ _ h => h)
  refine lv_iconst (v := 3) hx hb dX1_untilOneIsOut_8 (by decide) ?_
  refine lv_icmp_ne (tgt := 15) hx hb dX1_untilOneIsOut_9 (by decide) (fun c2 => ?_) (fun c2 => ?_)
  · replace h := h.1 c2
    refine lv_aload_n hx hb dX1_untilOneIsOut_15 rfl (lv_at hl 0 rfl) ?_
    refine g_getR (a := aG) (k := 0) (o := 4) C hK hG fl_X1_21 rfl rfl dX1_untilOneIsOut_16 ?_
    refine lv_iload_n hx hb dX1_untilOneIsOut_19 rfl (lv_at hl 1 rfl) ?_
    refine g_vI C hK hl.1 (m_X2_worksOf l G aG γ x1 _ h) mw_X2_worksOf mi_X2_worksOf ml_X1_191 rfl ⟨rfl, rfl, Nat.le_of_ble_eq_true rfl, Nat.le_of_ble_eq_true rfl⟩ ⟨Nat.zero_le _, Nat.zero_le _⟩ (g_recv (a := aG) (k := 4) hK hG rfl rfl) hG hS (fun _ h => h.elim) rfl (Nat.le_of_ble_eq_true rfl) dX1_untilOneIsOut_20 (fun r3 u H locs h hu _ hq hS => ?_)
    have hG := hG.past hq (fun _ _ h => h)
    refine lv_istore_n (lv' := [(2, .int r3), (0, .ref (aG + 0)), (1, .int x1)]) hx hb dX1_untilOneIsOut_23 rfl hl (by decide) rfl (fun ls hl => ?_)
    refine lv_iconst (v := 0) hx hb dX1_untilOneIsOut_24 (by decide) ?_
    refine lv_istore_n (lv' := [(3, .int 0), (2, .int r3), (0, .ref (aG + 0)), (1, .int x1)]) hx hb dX1_untilOneIsOut_25 rfl hl (by decide) rfl (fun ls hl => ?_)
    refine lv_iconst (v := 0) hx hb dX1_untilOneIsOut_26 (by decide) ?_
    refine lv_istore (lv' := [(4, .int 0), (3, .int 0), (2, .int r3), (0, .ref (aG + 0)), (1, .int x1)]) hx hb dX1_untilOneIsOut_27 hl (by decide) rfl (fun ls hl => ?_)
    exact ((K n)) γ x1 r3 0 0 _ _ _ hG hS (lv_sub hl [3, 4, 2, 1, 0] rfl) h
  · replace h := h.2 c2
    refine g_ldc C kc_X1_190 dX1_untilOneIsOut_12 ?_
    exact g_iret (post := Q) (P' := fun u H => rg G LG aG u H) (r := (-1000004)) (u := γ) C hr hK hS h hG dX1_untilOneIsOut_14
theorem dX1_bestTask_0 : decode cX1_bestTask 0 = .ok (.iconst (-1), 1) := by decide +kernel
theorem dX1_bestTask_1 : decode cX1_bestTask 1 = .ok (.istore_n 2, 1) := by decide +kernel
theorem dX1_bestTask_2 : decode cX1_bestTask 2 = .ok (.iconst 0, 1) := by decide +kernel
theorem dX1_bestTask_3 : decode cX1_bestTask 3 = .ok (.istore_n 3, 1) := by decide +kernel
theorem dX1_bestTask_4 : decode cX1_bestTask 4 = .ok (.iload_n 3, 1) := by decide +kernel
theorem dX1_bestTask_5 : decode cX1_bestTask 5 = .ok (.aload_n 0, 1) := by decide +kernel
theorem dX1_bestTask_6 : decode cX1_bestTask 6 = .ok (.getfield 28, 3) := by decide +kernel
theorem dX1_bestTask_9 : decode cX1_bestTask 9 = .ok (.getfield 71, 3) := by decide +kernel
theorem dX1_bestTask_12 : decode cX1_bestTask 12 = .ok (.if_icmp .ge 50, 3) := by decide +kernel
theorem dX1_bestTask_15 : decode cX1_bestTask 15 = .ok (.iload_n 3, 1) := by decide +kernel
theorem dX1_bestTask_16 : decode cX1_bestTask 16 = .ok (.bipush 8, 2) := by decide +kernel
theorem dX1_bestTask_18 : decode cX1_bestTask 18 = .ok (.if_icmp .ge 44, 3) := by decide +kernel
theorem dX1_bestTask_21 : decode cX1_bestTask 21 = .ok (.aload_n 0, 1) := by decide +kernel
theorem dX1_bestTask_22 : decode cX1_bestTask 22 = .ok (.iload_n 1, 1) := by decide +kernel
theorem dX1_bestTask_23 : decode cX1_bestTask 23 = .ok (.iload_n 3, 1) := by decide +kernel
theorem dX1_bestTask_24 : decode cX1_bestTask 24 = .ok (.invokevirtual 127, 3) := by decide +kernel
theorem dX1_bestTask_27 : decode cX1_bestTask 27 = .ok (.ifCond .eq 29, 3) := by decide +kernel
theorem dX1_bestTask_30 : decode cX1_bestTask 30 = .ok (.iload_n 2, 1) := by decide +kernel
theorem dX1_bestTask_31 : decode cX1_bestTask 31 = .ok (.iconst (-1), 1) := by decide +kernel
theorem dX1_bestTask_32 : decode cX1_bestTask 32 = .ok (.if_icmp .eq 22, 3) := by decide +kernel
theorem dX1_bestTask_35 : decode cX1_bestTask 35 = .ok (.aload_n 0, 1) := by decide +kernel
theorem dX1_bestTask_36 : decode cX1_bestTask 36 = .ok (.getfield 28, 3) := by decide +kernel
theorem dX1_bestTask_39 : decode cX1_bestTask 39 = .ok (.iload_n 3, 1) := by decide +kernel
theorem dX1_bestTask_40 : decode cX1_bestTask 40 = .ok (.invokevirtual 194, 3) := by decide +kernel
theorem dX1_bestTask_43 : decode cX1_bestTask 43 = .ok (.aload_n 0, 1) := by decide +kernel
theorem dX1_bestTask_44 : decode cX1_bestTask 44 = .ok (.getfield 28, 3) := by decide +kernel
theorem dX1_bestTask_47 : decode cX1_bestTask 47 = .ok (.iload_n 2, 1) := by decide +kernel
theorem dX1_bestTask_48 : decode cX1_bestTask 48 = .ok (.invokevirtual 194, 3) := by decide +kernel
theorem dX1_bestTask_51 : decode cX1_bestTask 51 = .ok (.if_icmp .le 5, 3) := by decide +kernel
theorem dX1_bestTask_54 : decode cX1_bestTask 54 = .ok (.iload_n 3, 1) := by decide +kernel
theorem dX1_bestTask_55 : decode cX1_bestTask 55 = .ok (.istore_n 2, 1) := by decide +kernel
theorem dX1_bestTask_56 : decode cX1_bestTask 56 = .ok (.iinc 3 1, 3) := by decide +kernel
theorem dX1_bestTask_59 : decode cX1_bestTask 59 = .ok (.goto (-55), 3) := by decide +kernel
theorem dX1_bestTask_62 : decode cX1_bestTask 62 = .ok (.iload_n 2, 1) := by decide +kernel
theorem dX1_bestTask_63 : decode cX1_bestTask 63 = .ok (.ireturn, 1) := by decide +kernel
def vb_X1_bestTask_4 (Q : Int32 → Prop) (γ : Mem) (rec : Nat → Int32 → Int32 → Int32 → Prop) (w1 : Int32) (w2 : Int32) (w3 : Int32) : Prop :=
  (((γ 12 0) ≤ w3) → (Q w2 )) ∧ ((¬ (γ 12 0) ≤ w3) → (((8 ≤ w3) → (Q w2 )) ∧ ((¬ 8 ≤ w3) → (vc_X1_canBePut (fun r3 => ((r3 = 0) → (∀ v5 : Int32, v5 = w3 + 1 → (rec 0 w1 w2 v5))) ∧ ((¬ r3 = 0) → (((w2 = (-1)) → (∀ v7 : Int32, v7 = w3 + 1 → (rec 0 w1 w3 v7))) ∧ ((¬ w2 = (-1)) → (vc_X6_differenceOf (fun r8 => vc_X6_differenceOf (fun r9 => ((r8 ≤ r9) → (∀ v11 : Int32, v11 = w3 + 1 → (rec 0 w1 w2 v11))) ∧ ((¬ r8 ≤ r9) → (∀ v12 : Int32, v12 = w3 + 1 → (rec 0 w1 w3 v12)))) γ w2) γ w3))))) γ w1 w3))))
def vl_X1_bestTask (Q : Int32 → Prop) (γ : Mem) : Nat → Nat → Int32 → Int32 → Int32 → Prop
  | 0, _, _, _, _ => False
  | n + 1, 0, w1, w2, w3 => vb_X1_bestTask_4 Q γ (vl_X1_bestTask Q γ n) w1 w2 w3
  | _ + 1, _, _, _, _ => False
def vc_X1_bestTask (Q : Int32 → Prop) (γ : Mem) (x1 : Int32) : Prop :=
  ∃ n : Nat, vl_X1_bestTask Q γ n 0 x1 (-1) 0
set_option maxHeartbeats 8000000 in
set_option maxRecDepth 100000 in
theorem m_X1_bestTask (l : Launch) (G : GG) (aG : Nat) (γ : Mem) (x1 : Int32) (Q : Int32 → Prop) (h : vc_X1_bestTask Q γ x1) : CtI l yX1_bestTask cX1_bestTask 4 (some .int) { frames := 3, cells := 0, slots := 0, locals := 68 } [.ref (aG + 0), .int x1] G (fun H => rg G LG aG γ H) (fun r (_ : Unit) => Q r) (fun _ _ => True) (fun _ => False) := by
  unfold CtI
  refine met_start (y := yX1_bestTask) (maxL := 4) (av := [.ref (aG + 0), .int x1]) (G := G) (P := fun H => rg G LG aG γ H) (by decide) rfl (Nat.le_of_ble_eq_true rfl) (fun p e s m below meth c ls C hr hP hK hl => ?_)
  obtain ⟨hx, hb, hml, hown, hts, hlocks⟩ := id C
  have hG : rg G LG aG γ s.heap := hP
  have hS : va_S (fun _ => False) s.heap s.heap [] := va_S.rf
  have hl : lv_has ls 4 [(0, .ref (aG + 0)), (1, .int x1)] := hl
  have K : ∀ n : Nat, (∀ (w1 : Int32) (w2 : Int32) (w3 : Int32) (H : Heap) (locs : List Loc) (ls : Array Slot), rg G LG aG γ H → va_S (fun _ => False) s.heap H locs → lv_has ls 4 [(0, .ref (aG + 0)), (1, .int w1), (2, .int w2), (3, .int w3)] → vl_X1_bestTask Q γ n 0 w1 w2 w3 → W p l e { frames := 3, cells := 0, slots := 0, locals := 68 } s m [.ref (aG + 0), .int x1].toArray below meth c H locs 0 0 (MQ below (va_Qi (fun r (_ : Unit) => Q r) (fun u t => (fun _ _ => True) u t.heap ∧ KK G t) (fun _ => False)) [.ref (aG + 0), .int x1].toArray s 0 0 (fun _ => False)) (F0 m 4 ls [])) := by
    intro n
    induction n with
    | zero => exact fun _ _ _ _ _ _ _ _ _ h => h.elim
    | succ n ih =>
      · intro w1 w2 w3 H locs ls hG hS hl h
        replace h : vb_X1_bestTask_4 Q γ (vl_X1_bestTask Q γ n) w1 w2 w3 := h
        unfold vb_X1_bestTask_4 at h
        refine lv_iload_n hx hb dX1_bestTask_4 rfl (lv_at hl 3 rfl) ?_
        refine lv_aload_n hx hb dX1_bestTask_5 rfl (lv_at hl 0 rfl) ?_
        refine g_getR (a := aG) (k := 0) (o := 12) C hK hG fl_X1_28 rfl rfl dX1_bestTask_6 ?_
        refine g_getI (a := aG) (k := 12) C hK hG fl_X1_71 rfl rfl dX1_bestTask_9 ?_
        refine lv_icmp_ge (tgt := 62) hx hb dX1_bestTask_12 (by decide) (fun c1 => ?_) (fun c1 => ?_)
        · replace h := h.1 c1
          refine lv_iload_n hx hb dX1_bestTask_62 rfl (lv_at hl 2 rfl) ?_
          exact g_iret (post := fun r (_ : Unit) => Q r) (P' := fun _ _ => True) (r := w2) (u := ()) C hr hK hS h trivial dX1_bestTask_63
        · replace h := h.2 c1
          refine lv_iload_n hx hb dX1_bestTask_15 rfl (lv_at hl 3 rfl) ?_
          refine lv_bipush (v := 8) hx hb dX1_bestTask_16 (by decide) ?_
          refine lv_icmp_ge (tgt := 62) hx hb dX1_bestTask_18 (by decide) (fun c2 => ?_) (fun c2 => ?_)
          · replace h := h.1 c2
            refine lv_iload_n hx hb dX1_bestTask_62 rfl (lv_at hl 2 rfl) ?_
            exact g_iret (post := fun r (_ : Unit) => Q r) (P' := fun _ _ => True) (r := w2) (u := ()) C hr hK hS h trivial dX1_bestTask_63
          · replace h := h.2 c2
            refine lv_aload_n hx hb dX1_bestTask_21 rfl (lv_at hl 0 rfl) ?_
            refine lv_iload_n hx hb dX1_bestTask_22 rfl (lv_at hl 1 rfl) ?_
            refine lv_iload_n hx hb dX1_bestTask_23 rfl (lv_at hl 3 rfl) ?_
            refine g_vI C hK hl.1 (m_X1_canBePut l G aG γ w1 w3 _ h) mw_X1_canBePut mi_X1_canBePut ml_X1_127 rfl ⟨rfl, rfl, Nat.le_of_ble_eq_true rfl, Nat.le_of_ble_eq_true rfl⟩ ⟨Nat.zero_le _, Nat.zero_le _⟩ (g_recv (a := aG) (k := 0) hK hG rfl rfl) hG hS (fun _ h => h.elim) rfl (Nat.le_of_ble_eq_true rfl) dX1_bestTask_24 (fun r3 u H locs h hu _ hq hS => ?_)
            have hG := hG.past hq (fun _ _ h => h)
            refine lv_if_eq (tgt := 56) hx hb dX1_bestTask_27 (by decide) (fun c4 => ?_) (fun c4 => ?_)
            · replace h := h.1 c4
              obtain ⟨v5, ev5⟩ : ∃ y : Int32, y = w3 + 1 := ⟨_, rfl⟩
              specialize h v5 ev5
              refine lv_iinc (v := v5) (lv' := [(3, .int v5), (0, .ref (aG + 0)), (1, .int w1), (2, .int w2)]) hx hb dX1_bestTask_56 hl (k := 3) rfl (by rw [ev5]; rfl) (by decide) rfl (fun ls hl => ?_)
              refine lv_goto (tgt := 4) hx hb dX1_bestTask_59 (by decide) ?_
              exact (ih) w1 w2 v5 _ _ _ hG hS (lv_sub hl [1, 2, 3, 0] rfl) h
            · replace h := h.2 c4
              refine lv_iload_n hx hb dX1_bestTask_30 rfl (lv_at hl 2 rfl) ?_
              refine lv_iconst (v := (-1)) hx hb dX1_bestTask_31 (by decide) ?_
              refine lv_icmp_eq (tgt := 54) hx hb dX1_bestTask_32 (by decide) (fun c6 => ?_) (fun c6 => ?_)
              · replace h := h.1 c6
                refine lv_iload_n hx hb dX1_bestTask_54 rfl (lv_at hl 3 rfl) ?_
                refine lv_istore_n (lv' := [(2, .int w3), (0, .ref (aG + 0)), (1, .int w1), (3, .int w3)]) hx hb dX1_bestTask_55 rfl hl (by decide) rfl (fun ls hl => ?_)
                obtain ⟨v7, ev7⟩ : ∃ y : Int32, y = w3 + 1 := ⟨_, rfl⟩
                specialize h v7 ev7
                refine lv_iinc (v := v7) (lv' := [(3, .int v7), (2, .int w3), (0, .ref (aG + 0)), (1, .int w1)]) hx hb dX1_bestTask_56 hl (k := 3) rfl (by rw [ev7]; rfl) (by decide) rfl (fun ls hl => ?_)
                refine lv_goto (tgt := 4) hx hb dX1_bestTask_59 (by decide) ?_
                exact (ih) w1 w3 v7 _ _ _ hG hS (lv_sub hl [2, 3, 1, 0] rfl) h
              · replace h := h.2 c6
                refine lv_aload_n hx hb dX1_bestTask_35 rfl (lv_at hl 0 rfl) ?_
                refine g_getR (a := aG) (k := 0) (o := 12) C hK hG fl_X1_28 rfl rfl dX1_bestTask_36 ?_
                refine lv_iload_n hx hb dX1_bestTask_39 rfl (lv_at hl 3 rfl) ?_
                refine g_vI C hK hl.1 (m_X6_differenceOf l G aG γ w3 _ h) mw_X6_differenceOf mi_X6_differenceOf ml_X1_194 rfl ⟨rfl, rfl, Nat.le_of_ble_eq_true rfl, Nat.le_of_ble_eq_true rfl⟩ ⟨Nat.zero_le _, Nat.zero_le _⟩ (g_recv (a := aG) (k := 12) hK hG rfl rfl) hG hS (fun _ h => h.elim) rfl (Nat.le_of_ble_eq_true rfl) dX1_bestTask_40 (fun r8 u H locs h hu _ hq hS => ?_)
                have hG := hG.past hq (fun _ _ h => h)
                refine lv_aload_n hx hb dX1_bestTask_43 rfl (lv_at hl 0 rfl) ?_
                refine g_getR (a := aG) (k := 0) (o := 12) C hK hG fl_X1_28 rfl rfl dX1_bestTask_44 ?_
                refine lv_iload_n hx hb dX1_bestTask_47 rfl (lv_at hl 2 rfl) ?_
                refine g_vI C hK hl.1 (m_X6_differenceOf l G aG γ w2 _ h) mw_X6_differenceOf mi_X6_differenceOf ml_X1_194 rfl ⟨rfl, rfl, Nat.le_of_ble_eq_true rfl, Nat.le_of_ble_eq_true rfl⟩ ⟨Nat.zero_le _, Nat.zero_le _⟩ (g_recv (a := aG) (k := 12) hK hG rfl rfl) hG hS (fun _ h => h.elim) rfl (Nat.le_of_ble_eq_true rfl) dX1_bestTask_48 (fun r9 u H locs h hu _ hq hS => ?_)
                have hG := hG.past hq (fun _ _ h => h)
                refine lv_icmp_le (tgt := 56) hx hb dX1_bestTask_51 (by decide) (fun c10 => ?_) (fun c10 => ?_)
                · replace h := h.1 c10
                  obtain ⟨v11, ev11⟩ : ∃ y : Int32, y = w3 + 1 := ⟨_, rfl⟩
                  specialize h v11 ev11
                  refine lv_iinc (v := v11) (lv' := [(3, .int v11), (0, .ref (aG + 0)), (1, .int w1), (2, .int w2)]) hx hb dX1_bestTask_56 hl (k := 3) rfl (by rw [ev11]; rfl) (by decide) rfl (fun ls hl => ?_)
                  refine lv_goto (tgt := 4) hx hb dX1_bestTask_59 (by decide) ?_
                  exact (ih) w1 w2 v11 _ _ _ hG hS (lv_sub hl [1, 2, 3, 0] rfl) h
                · replace h := h.2 c10
                  refine lv_iload_n hx hb dX1_bestTask_54 rfl (lv_at hl 3 rfl) ?_
                  refine lv_istore_n (lv' := [(2, .int w3), (0, .ref (aG + 0)), (1, .int w1), (3, .int w3)]) hx hb dX1_bestTask_55 rfl hl (by decide) rfl (fun ls hl => ?_)
                  obtain ⟨v12, ev12⟩ : ∃ y : Int32, y = w3 + 1 := ⟨_, rfl⟩
                  specialize h v12 ev12
                  refine lv_iinc (v := v12) (lv' := [(3, .int v12), (2, .int w3), (0, .ref (aG + 0)), (1, .int w1)]) hx hb dX1_bestTask_56 hl (k := 3) rfl (by rw [ev12]; rfl) (by decide) rfl (fun ls hl => ?_)
                  refine lv_goto (tgt := 4) hx hb dX1_bestTask_59 (by decide) ?_
                  exact (ih) w1 w3 v12 _ _ _ hG hS (lv_sub hl [2, 3, 1, 0] rfl) h
  unfold vc_X1_bestTask at h
  obtain ⟨n, h⟩ := h
  refine lv_iconst (v := (-1)) hx hb dX1_bestTask_0 (by decide) ?_
  refine lv_istore_n (lv' := [(2, .int (-1)), (0, .ref (aG + 0)), (1, .int x1)]) hx hb dX1_bestTask_1 rfl hl (by decide) rfl (fun ls hl => ?_)
  refine lv_iconst (v := 0) hx hb dX1_bestTask_2 (by decide) ?_
  refine lv_istore_n (lv' := [(3, .int 0), (2, .int (-1)), (0, .ref (aG + 0)), (1, .int x1)]) hx hb dX1_bestTask_3 rfl hl (by decide) rfl (fun ls hl => ?_)
  exact ((K n)) x1 (-1) 0 _ _ _ hG hS (lv_sub hl [2, 3, 1, 0] rfl) h
theorem dX1_untilAffordable_0 : decode cX1_untilAffordable 0 = .ok (.iconst 0, 1) := by decide +kernel
theorem dX1_untilAffordable_1 : decode cX1_untilAffordable 1 = .ok (.istore 4, 2) := by decide +kernel
theorem dX1_untilAffordable_3 : decode cX1_untilAffordable 3 = .ok (.iload 4, 2) := by decide +kernel
theorem dX1_untilAffordable_5 : decode cX1_untilAffordable 5 = .ok (.sipush 600, 3) := by decide +kernel
theorem dX1_untilAffordable_8 : decode cX1_untilAffordable 8 = .ok (.if_icmp .gt 85, 3) := by decide +kernel
theorem dX1_untilAffordable_11 : decode cX1_untilAffordable 11 = .ok (.aload_n 0, 1) := by decide +kernel
theorem dX1_untilAffordable_12 : decode cX1_untilAffordable 12 = .ok (.getfield 12, 3) := by decide +kernel
theorem dX1_untilAffordable_15 : decode cX1_untilAffordable 15 = .ok (.iload_n 1, 1) := by decide +kernel
theorem dX1_untilAffordable_16 : decode cX1_untilAffordable 16 = .ok (.iload_n 2, 1) := by decide +kernel
theorem dX1_untilAffordable_17 : decode cX1_untilAffordable 17 = .ok (.invokevirtual 121, 3) := by decide +kernel
theorem dX1_untilAffordable_20 : decode cX1_untilAffordable 20 = .ok (.ifCond .eq 6, 3) := by decide +kernel
theorem dX1_untilAffordable_23 : decode cX1_untilAffordable 23 = .ok (.iload 4, 2) := by decide +kernel
theorem dX1_untilAffordable_25 : decode cX1_untilAffordable 25 = .ok (.ireturn, 1) := by decide +kernel
theorem dX1_untilAffordable_26 : decode cX1_untilAffordable 26 = .ok (.iconst 0, 1) := by decide +kernel
theorem dX1_untilAffordable_27 : decode cX1_untilAffordable 27 = .ok (.istore 5, 2) := by decide +kernel
theorem dX1_untilAffordable_29 : decode cX1_untilAffordable 29 = .ok (.iload 5, 2) := by decide +kernel
theorem dX1_untilAffordable_31 : decode cX1_untilAffordable 31 = .ok (.iconst 3, 1) := by decide +kernel
theorem dX1_untilAffordable_32 : decode cX1_untilAffordable 32 = .ok (.if_icmp .ge 18, 3) := by decide +kernel
theorem dX1_untilAffordable_35 : decode cX1_untilAffordable 35 = .ok (.aload_n 0, 1) := by decide +kernel
theorem dX1_untilAffordable_36 : decode cX1_untilAffordable 36 = .ok (.iload_n 1, 1) := by decide +kernel
theorem dX1_untilAffordable_37 : decode cX1_untilAffordable 37 = .ok (.iload 5, 2) := by decide +kernel
theorem dX1_untilAffordable_39 : decode cX1_untilAffordable 39 = .ok (.iload_n 3, 1) := by decide +kernel
theorem dX1_untilAffordable_40 : decode cX1_untilAffordable 40 = .ok (.invokevirtual 197, 3) := by decide +kernel
theorem dX1_untilAffordable_43 : decode cX1_untilAffordable 43 = .ok (.pop, 1) := by decide +kernel
theorem dX1_untilAffordable_44 : decode cX1_untilAffordable 44 = .ok (.iinc 5 1, 3) := by decide +kernel
theorem dX1_untilAffordable_47 : decode cX1_untilAffordable 47 = .ok (.goto (-18), 3) := by decide +kernel
theorem dX1_untilAffordable_50 : decode cX1_untilAffordable 50 = .ok (.sipush 601, 3) := by decide +kernel
theorem dX1_untilAffordable_53 : decode cX1_untilAffordable 53 = .ok (.iload 4, 2) := by decide +kernel
theorem dX1_untilAffordable_55 : decode cX1_untilAffordable 55 = .ok (.isub, 1) := by decide +kernel
theorem dX1_untilAffordable_56 : decode cX1_untilAffordable 56 = .ok (.istore 5, 2) := by decide +kernel
theorem dX1_untilAffordable_58 : decode cX1_untilAffordable 58 = .ok (.iconst 1, 1) := by decide +kernel
theorem dX1_untilAffordable_59 : decode cX1_untilAffordable 59 = .ok (.iload 5, 2) := by decide +kernel
theorem dX1_untilAffordable_61 : decode cX1_untilAffordable 61 = .ok (.aload_n 0, 1) := by decide +kernel
theorem dX1_untilAffordable_62 : decode cX1_untilAffordable 62 = .ok (.getfield 21, 3) := by decide +kernel
theorem dX1_untilAffordable_65 : decode cX1_untilAffordable 65 = .ok (.invokevirtual 161, 3) := by decide +kernel
theorem dX1_untilAffordable_68 : decode cX1_untilAffordable 68 = .ok (.invokestatic 164, 3) := by decide +kernel
theorem dX1_untilAffordable_71 : decode cX1_untilAffordable 71 = .ok (.invokestatic 169, 3) := by decide +kernel
theorem dX1_untilAffordable_74 : decode cX1_untilAffordable 74 = .ok (.istore 6, 2) := by decide +kernel
theorem dX1_untilAffordable_76 : decode cX1_untilAffordable 76 = .ok (.aload_n 0, 1) := by decide +kernel
theorem dX1_untilAffordable_77 : decode cX1_untilAffordable 77 = .ok (.iload 6, 2) := by decide +kernel
theorem dX1_untilAffordable_79 : decode cX1_untilAffordable 79 = .ok (.invokevirtual 158, 3) := by decide +kernel
theorem dX1_untilAffordable_82 : decode cX1_untilAffordable 82 = .ok (.pop, 1) := by decide +kernel
theorem dX1_untilAffordable_83 : decode cX1_untilAffordable 83 = .ok (.iload 4, 2) := by decide +kernel
theorem dX1_untilAffordable_85 : decode cX1_untilAffordable 85 = .ok (.iload 6, 2) := by decide +kernel
theorem dX1_untilAffordable_87 : decode cX1_untilAffordable 87 = .ok (.iadd, 1) := by decide +kernel
theorem dX1_untilAffordable_88 : decode cX1_untilAffordable 88 = .ok (.istore 4, 2) := by decide +kernel
theorem dX1_untilAffordable_90 : decode cX1_untilAffordable 90 = .ok (.goto (-87), 3) := by decide +kernel
theorem dX1_untilAffordable_93 : decode cX1_untilAffordable 93 = .ok (.ldc 190, 2) := by decide +kernel
theorem dX1_untilAffordable_95 : decode cX1_untilAffordable 95 = .ok (.ireturn, 1) := by decide +kernel
def vb_X1_untilAffordable_3 (Q : Int32 → Mem → Prop) (rec : Nat → Mem → Int32 → Int32 → Int32 → Int32 → Int32 → Prop) (γ : Mem) (w1 : Int32) (w2 : Int32) (w3 : Int32) (w4 : Int32) : Prop :=
  ((600 < w4) → (Q (-1000004) γ)) ∧ ((¬ 600 < w4) → (vc_X5_have (fun r2 => ((r2 = 0) → (rec 1 γ w1 w2 w3 w4 0)) ∧ ((¬ r2 = 0) → (Q w4 γ))) γ w1 w2))
def vb_X1_untilAffordable_29 (Q : Int32 → Mem → Prop) (rec : Nat → Mem → Int32 → Int32 → Int32 → Int32 → Int32 → Prop) (γ : Mem) (w1 : Int32) (w2 : Int32) (w3 : Int32) (w4 : Int32) (w5 : Int32) : Prop :=
  ((3 ≤ w5) → (∀ v5 : Int32, v5 = (601 - w4) → (vc_X2_untilNextOut (fun r6 => ∀ v7 : Int32, v7 = (if r6 < v5 then r6 else v5) → (∀ v8 : Int32, v8 = (if 1 < v7 then v7 else 1) → (vc_X1_advance (fun r9 γ10 => ∀ v11 : Int32, v11 = (w4 + v8) → (rec 0 γ10 w1 w2 w3 v11 0)) γ v8))) γ))) ∧ ((¬ 3 ≤ w5) → (vc_X1_putWorker (fun r12 γ13 => ∀ v14 : Int32, v14 = w5 + 1 → (rec 1 γ13 w1 w2 w3 w4 v14)) γ w1 w5 w3))
def vl_X1_untilAffordable (Q : Int32 → Mem → Prop) : Nat → Nat → Mem → Int32 → Int32 → Int32 → Int32 → Int32 → Prop
  | 0, _, _, _, _, _, _, _ => False
  | n + 1, 0, γ, w1, w2, w3, w4, _ => vb_X1_untilAffordable_3 Q (vl_X1_untilAffordable Q n) γ w1 w2 w3 w4
  | n + 1, 1, γ, w1, w2, w3, w4, w5 => vb_X1_untilAffordable_29 Q (vl_X1_untilAffordable Q n) γ w1 w2 w3 w4 w5
  | _ + 1, _, _, _, _, _, _, _ => False
def vc_X1_untilAffordable (Q : Int32 → Mem → Prop) (γ : Mem) (x1 : Int32) (x2 : Int32) (x3 : Int32) : Prop :=
  ∃ n : Nat, vl_X1_untilAffordable Q n 0 γ x1 x2 x3 0 0
set_option maxHeartbeats 8000000 in
set_option maxRecDepth 100000 in
theorem m_X1_untilAffordable (l : Launch) (G : GG) (aG : Nat) (γ : Mem) (x1 : Int32) (x2 : Int32) (x3 : Int32) (Q : Int32 → Mem → Prop) (h : vc_X1_untilAffordable Q γ x1 x2 x3) : CtI l yX1_untilAffordable cX1_untilAffordable 7 (some .int) { frames := 4, cells := 0, slots := 0, locals := 95 } [.ref (aG + 0), .int x1, .int x2, .int x3] G (fun H => rg G LG aG γ H) (Q) (fun u H => rg G LG aG u H) (RA aG 22) := by
  unfold CtI
  refine met_start (y := yX1_untilAffordable) (maxL := 7) (av := [.ref (aG + 0), .int x1, .int x2, .int x3]) (G := G) (P := fun H => rg G LG aG γ H) (by decide) rfl (Nat.le_of_ble_eq_true rfl) (fun p e s m below meth c ls C hr hP hK hl => ?_)
  obtain ⟨hx, hb, hml, hown, hts, hlocks⟩ := id C
  have hG : rg G LG aG γ s.heap := hP
  have hS : va_S (RA aG 22) s.heap s.heap [] := va_S.rf
  have hl : lv_has ls 7 [(0, .ref (aG + 0)), (1, .int x1), (2, .int x2), (3, .int x3)] := hl
  have K : ∀ n : Nat, (∀ (γ : Mem) (w1 : Int32) (w2 : Int32) (w3 : Int32) (w4 : Int32) (H : Heap) (locs : List Loc) (ls : Array Slot), rg G LG aG γ H → va_S (RA aG 22) s.heap H locs → lv_has ls 7 [(0, .ref (aG + 0)), (1, .int w1), (2, .int w2), (3, .int w3), (4, .int w4)] → vl_X1_untilAffordable Q n 0 γ w1 w2 w3 w4 0 → W p l e { frames := 4, cells := 0, slots := 0, locals := 95 } s m [.ref (aG + 0), .int x1, .int x2, .int x3].toArray below meth c H locs 0 0 (MQ below (va_Qi (Q) (fun u t => (fun u H => rg G LG aG u H) u t.heap ∧ KK G t) (RA aG 22)) [.ref (aG + 0), .int x1, .int x2, .int x3].toArray s 0 0 (RA aG 22)) (F0 m 3 ls [])) ∧ (∀ (γ : Mem) (w1 : Int32) (w2 : Int32) (w3 : Int32) (w4 : Int32) (w5 : Int32) (H : Heap) (locs : List Loc) (ls : Array Slot), rg G LG aG γ H → va_S (RA aG 22) s.heap H locs → lv_has ls 7 [(0, .ref (aG + 0)), (1, .int w1), (2, .int w2), (3, .int w3), (4, .int w4), (5, .int w5)] → vl_X1_untilAffordable Q n 1 γ w1 w2 w3 w4 w5 → W p l e { frames := 4, cells := 0, slots := 0, locals := 95 } s m [.ref (aG + 0), .int x1, .int x2, .int x3].toArray below meth c H locs 0 0 (MQ below (va_Qi (Q) (fun u t => (fun u H => rg G LG aG u H) u t.heap ∧ KK G t) (RA aG 22)) [.ref (aG + 0), .int x1, .int x2, .int x3].toArray s 0 0 (RA aG 22)) (F0 m 29 ls [])) := by
    intro n
    induction n with
    | zero => exact ⟨fun _ _ _ _ _ _ _ _ _ _ _ h => h.elim, fun _ _ _ _ _ _ _ _ _ _ _ _ h => h.elim⟩
    | succ n ih =>
      refine ⟨?_, ?_⟩
      · intro γ w1 w2 w3 w4 H locs ls hG hS hl h
        replace h : vb_X1_untilAffordable_3 Q (vl_X1_untilAffordable Q n) γ w1 w2 w3 w4 := h
        unfold vb_X1_untilAffordable_3 at h
        refine lv_iload hx hb dX1_untilAffordable_3 (lv_at hl 4 rfl) ?_
        refine lv_sipush (v := 600) hx hb dX1_untilAffordable_5 (by decide) ?_
        refine lv_icmp_gt (tgt := 93) hx hb dX1_untilAffordable_8 (by decide) (fun c1 => ?_) (fun c1 => ?_)
        · replace h := h.1 c1
          refine g_ldc C kc_X1_190 dX1_untilAffordable_93 ?_
          exact g_iret (post := Q) (P' := fun u H => rg G LG aG u H) (r := (-1000004)) (u := γ) C hr hK hS h hG dX1_untilAffordable_95
        · replace h := h.2 c1
          refine lv_aload_n hx hb dX1_untilAffordable_11 rfl (lv_at hl 0 rfl) ?_
          refine g_getR (a := aG) (k := 0) (o := 1) C hK hG fl_X1_12 rfl rfl dX1_untilAffordable_12 ?_
          refine lv_iload_n hx hb dX1_untilAffordable_15 rfl (lv_at hl 1 rfl) ?_
          refine lv_iload_n hx hb dX1_untilAffordable_16 rfl (lv_at hl 2 rfl) ?_
          refine g_vI C hK hl.1 (m_X5_have l G aG γ w1 w2 _ h) mw_X5_have mi_X5_have ml_X1_121 rfl ⟨rfl, rfl, Nat.le_of_ble_eq_true rfl, Nat.le_of_ble_eq_true rfl⟩ ⟨Nat.zero_le _, Nat.zero_le _⟩ (g_recv (a := aG) (k := 1) hK hG rfl rfl) hG hS (fun _ h => h.elim) rfl (Nat.le_of_ble_eq_true rfl) dX1_untilAffordable_17 (fun r2 u H locs h hu _ hq hS => ?_)
          have hG := hG.past hq (fun _ _ h => h)
          refine lv_if_eq (tgt := 26) hx hb dX1_untilAffordable_20 (by decide) (fun c3 => ?_) (fun c3 => ?_)
          · replace h := h.1 c3
            refine lv_iconst (v := 0) hx hb dX1_untilAffordable_26 (by decide) ?_
            refine lv_istore (lv' := [(5, .int 0), (0, .ref (aG + 0)), (1, .int w1), (2, .int w2), (3, .int w3), (4, .int w4)]) hx hb dX1_untilAffordable_27 hl (by decide) rfl (fun ls hl => ?_)
            exact (ih.2) γ w1 w2 w3 w4 0 _ _ _ hG hS (lv_sub hl [1, 2, 3, 4, 5, 0] rfl) h
          · replace h := h.2 c3
            refine lv_iload hx hb dX1_untilAffordable_23 (lv_at hl 4 rfl) ?_
            exact g_iret (post := Q) (P' := fun u H => rg G LG aG u H) (r := w4) (u := γ) C hr hK hS h hG dX1_untilAffordable_25
      · intro γ w1 w2 w3 w4 w5 H locs ls hG hS hl h
        replace h : vb_X1_untilAffordable_29 Q (vl_X1_untilAffordable Q n) γ w1 w2 w3 w4 w5 := h
        unfold vb_X1_untilAffordable_29 at h
        refine lv_iload hx hb dX1_untilAffordable_29 (lv_at hl 5 rfl) ?_
        refine lv_iconst (v := 3) hx hb dX1_untilAffordable_31 (by decide) ?_
        refine lv_icmp_ge (tgt := 50) hx hb dX1_untilAffordable_32 (by decide) (fun c4 => ?_) (fun c4 => ?_)
        · replace h := h.1 c4
          refine lv_sipush (v := 601) hx hb dX1_untilAffordable_50 (by decide) ?_
          refine lv_iload hx hb dX1_untilAffordable_53 (lv_at hl 4 rfl) ?_
          refine lv_isub hx hb dX1_untilAffordable_55 ?_
          refine lv_topi (fun v5 ev5 => ?_)
          specialize h v5 ev5
          refine lv_istore (lv' := [(5, .int v5), (0, .ref (aG + 0)), (1, .int w1), (2, .int w2), (3, .int w3), (4, .int w4)]) hx hb dX1_untilAffordable_56 hl (by decide) rfl (fun ls hl => ?_)
          refine lv_iconst (v := 1) hx hb dX1_untilAffordable_58 (by decide) ?_
          refine lv_iload hx hb dX1_untilAffordable_59 (lv_at hl 0 rfl) ?_
          refine lv_aload_n hx hb dX1_untilAffordable_61 rfl (lv_at hl 1 rfl) ?_
          refine g_getR (a := aG) (k := 0) (o := 4) C hK hG fl_X1_21 rfl rfl dX1_untilAffordable_62 ?_
          refine g_vI C hK hl.1 (m_X2_untilNextOut l G aG γ _ h) mw_X2_untilNextOut mi_X2_untilNextOut ml_X1_161 rfl ⟨rfl, rfl, Nat.le_of_ble_eq_true rfl, Nat.le_of_ble_eq_true rfl⟩ ⟨Nat.zero_le _, Nat.zero_le _⟩ (g_recv (a := aG) (k := 4) hK hG rfl rfl) hG hS (fun _ h => h.elim) rfl (Nat.le_of_ble_eq_true rfl) dX1_untilAffordable_65 (fun r6 u H locs h hu _ hq hS => ?_)
          have hG := hG.past hq (fun _ _ h => h)
          refine va_mmin hx hb (hml.trans hl.1.symm) hown (hts _ ml_X1_164) (hts _ math_min_s) (hts _ math_i) (hts _ math_min_c) (Nat.le_of_ble_eq_true rfl) (Nat.le_of_ble_eq_true rfl) (Nat.zero_le _) (Nat.zero_le _) dX1_untilAffordable_68 ?_
          refine lv_topi (fun v7 ev7 => ?_)
          specialize h v7 ev7
          refine va_mmax hx hb (hml.trans hl.1.symm) hown (hts _ ml_X1_169) (hts _ math_max_s) (hts _ math_i) (hts _ math_max_c) (Nat.le_of_ble_eq_true rfl) (Nat.le_of_ble_eq_true rfl) (Nat.zero_le _) (Nat.zero_le _) dX1_untilAffordable_71 ?_
          refine lv_topi (fun v8 ev8 => ?_)
          specialize h v8 ev8
          refine lv_istore (lv' := [(6, .int v8), (5, .int v5), (0, .ref (aG + 0)), (1, .int w1), (2, .int w2), (3, .int w3), (4, .int w4)]) hx hb dX1_untilAffordable_74 hl (by decide) rfl (fun ls hl => ?_)
          refine lv_aload_n hx hb dX1_untilAffordable_76 rfl (lv_at hl 2 rfl) ?_
          refine lv_iload hx hb dX1_untilAffordable_77 (lv_at hl 0 rfl) ?_
          refine g_vI C hK hl.1 (m_X1_advance l G aG γ v8 _ h) mw_X1_advance mi_X1_advance ml_X1_158 rfl ⟨rfl, rfl, Nat.le_of_ble_eq_true rfl, Nat.le_of_ble_eq_true rfl⟩ ⟨Nat.zero_le _, Nat.zero_le _⟩ (g_recv (a := aG) (k := 0) hK hG rfl rfl) hG hS (fun _ h => h) rfl (Nat.le_of_ble_eq_true rfl) dX1_untilAffordable_79 (fun r9 u H locs h hu _ hq hS => ?_)
          obtain ⟨γ10, rfl⟩ : ∃ z, z = u := ⟨_, rfl⟩
          have hG := hu
          refine lv_pop hx hb dX1_untilAffordable_82 rfl ?_
          refine lv_iload hx hb dX1_untilAffordable_83 (lv_at hl 6 rfl) ?_
          refine lv_iload hx hb dX1_untilAffordable_85 (lv_at hl 0 rfl) ?_
          refine lv_iadd hx hb dX1_untilAffordable_87 ?_
          refine lv_topi (fun v11 ev11 => ?_)
          specialize h v11 ev11
          refine lv_istore (lv' := [(4, .int v11), (6, .int v8), (5, .int v5), (0, .ref (aG + 0)), (1, .int w1), (2, .int w2), (3, .int w3)]) hx hb dX1_untilAffordable_88 hl (by decide) rfl (fun ls hl => ?_)
          refine lv_goto (tgt := 3) hx hb dX1_untilAffordable_90 (by decide) ?_
          exact (ih.1) γ10 w1 w2 w3 v11 _ _ _ hG hS (lv_sub hl [3, 4, 5, 6, 0] rfl) h
        · replace h := h.2 c4
          refine lv_aload_n hx hb dX1_untilAffordable_35 rfl (lv_at hl 0 rfl) ?_
          refine lv_iload_n hx hb dX1_untilAffordable_36 rfl (lv_at hl 1 rfl) ?_
          refine lv_iload hx hb dX1_untilAffordable_37 (lv_at hl 5 rfl) ?_
          refine lv_iload_n hx hb dX1_untilAffordable_39 rfl (lv_at hl 3 rfl) ?_
          refine g_vI C hK hl.1 (m_X1_putWorker l G aG γ w1 w5 w3 _ h) mw_X1_putWorker mi_X1_putWorker ml_X1_197 rfl ⟨rfl, rfl, Nat.le_of_ble_eq_true rfl, Nat.le_of_ble_eq_true rfl⟩ ⟨Nat.zero_le _, Nat.zero_le _⟩ (g_recv (a := aG) (k := 0) hK hG rfl rfl) hG hS (fun _ h => h) rfl (Nat.le_of_ble_eq_true rfl) dX1_untilAffordable_40 (fun r12 u H locs h hu _ hq hS => ?_)
          obtain ⟨γ13, rfl⟩ : ∃ z, z = u := ⟨_, rfl⟩
          have hG := hu
          refine lv_pop hx hb dX1_untilAffordable_43 rfl ?_
          obtain ⟨v14, ev14⟩ : ∃ y : Int32, y = w5 + 1 := ⟨_, rfl⟩
          specialize h v14 ev14
          refine lv_iinc (v := v14) (lv' := [(5, .int v14), (0, .ref (aG + 0)), (1, .int w1), (2, .int w2), (3, .int w3), (4, .int w4)]) hx hb dX1_untilAffordable_44 hl (k := 5) rfl (by rw [ev14]; rfl) (by decide) rfl (fun ls hl => ?_)
          refine lv_goto (tgt := 29) hx hb dX1_untilAffordable_47 (by decide) ?_
          exact (ih.2) γ13 w1 w2 w3 w4 v14 _ _ _ hG hS (lv_sub hl [1, 2, 3, 4, 5, 0] rfl) h
  unfold vc_X1_untilAffordable at h
  obtain ⟨n, h⟩ := h
  refine lv_iconst (v := 0) hx hb dX1_untilAffordable_0 (by decide) ?_
  refine lv_istore (lv' := [(4, .int 0), (0, .ref (aG + 0)), (1, .int x1), (2, .int x2), (3, .int x3)]) hx hb dX1_untilAffordable_1 hl (by decide) rfl (fun ls hl => ?_)
  exact ((K n).1) γ x1 x2 x3 0 _ _ _ hG hS (lv_sub hl [1, 2, 3, 4, 0] rfl) h
end
