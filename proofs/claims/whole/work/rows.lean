section
-- ===== PART A: goes FIRST, ahead of the names: the tables' words, and 'selects' of the private methods out of them =====
/-- a private method of a class that the tables say can be made, by its rows of tables_1 -/
def lw_okq (q : MethodName × Nat) : Prop := (q.1.cls ≠ "java/lang/invoke/MethodHandle" ∧ q.1.cls ≠ "java/lang/invoke/VarHandle") ∧ Cond.instantiable q.1.cls q.2 ∈ tables_1 ∧ Cond.privateMethod q.1 ∈ tables_1 ∧ Cond.instanceMethod q.1 ∈ tables_1
theorem lw_p0 : lw_okq (⟨"SandWorkers", "startTrial", "()V"⟩, 4) := ⟨⟨by decide +kernel, by decide +kernel⟩, List.mem_of_getElem? (i := 14) (by decide +kernel), List.mem_of_getElem? (i := 251) (by decide +kernel), List.mem_of_getElem? (i := 252) (by decide +kernel)⟩
theorem lw_p1 : lw_okq (⟨"SandWorkers", "keepTrial", "(I)I"⟩, 4) := ⟨⟨by decide +kernel, by decide +kernel⟩, List.mem_of_getElem? (i := 14) (by decide +kernel), List.mem_of_getElem? (i := 292) (by decide +kernel), List.mem_of_getElem? (i := 293) (by decide +kernel)⟩
theorem lw_p2 : lw_okq (⟨"SandWorkers$History", "dropOldest", "()V"⟩, 2) := ⟨⟨by decide +kernel, by decide +kernel⟩, List.mem_of_getElem? (i := 181) (by decide +kernel), List.mem_of_getElem? (i := 300) (by decide +kernel), List.mem_of_getElem? (i := 301) (by decide +kernel)⟩
theorem lw_p3 : lw_okq (⟨"SandWorkers$Game", "addIfDue", "(I)V"⟩, 7) := ⟨⟨by decide +kernel, by decide +kernel⟩, List.mem_of_getElem? (i := 22) (by decide +kernel), List.mem_of_getElem? (i := 415) (by decide +kernel), List.mem_of_getElem? (i := 416) (by decide +kernel)⟩
theorem lw_p4 : lw_okq (⟨"SandWorkers$Game", "finishDue", "()I"⟩, 7) := ⟨⟨by decide +kernel, by decide +kernel⟩, List.mem_of_getElem? (i := 22) (by decide +kernel), List.mem_of_getElem? (i := 419) (by decide +kernel), List.mem_of_getElem? (i := 420) (by decide +kernel)⟩
theorem lw_p5 : lw_okq (⟨"SandWorkers$Game", "takeEffect", "(II)V"⟩, 7) := ⟨⟨by decide +kernel, by decide +kernel⟩, List.mem_of_getElem? (i := 22) (by decide +kernel), List.mem_of_getElem? (i := 428) (by decide +kernel), List.mem_of_getElem? (i := 429) (by decide +kernel)⟩
theorem lw_p6 : lw_okq (⟨"SandWorkers$Glasses", "aheadOnTask", "(I)I"⟩, 8) := ⟨⟨by decide +kernel, by decide +kernel⟩, List.mem_of_getElem? (i := 53) (by decide +kernel), List.mem_of_getElem? (i := 526) (by decide +kernel), List.mem_of_getElem? (i := 527) (by decide +kernel)⟩
theorem lw_p7 : lw_okq (⟨"SandWorkers$Orders", "readOrder", "()Z"⟩, 8) := ⟨⟨by decide +kernel, by decide +kernel⟩, List.mem_of_getElem? (i := 198) (by decide +kernel), List.mem_of_getElem? (i := 653) (by decide +kernel), List.mem_of_getElem? (i := 654) (by decide +kernel)⟩
theorem lw_p8 : lw_okq (⟨"SandWorkers$Orders", "signAt", "(I)I"⟩, 8) := ⟨⟨by decide +kernel, by decide +kernel⟩, List.mem_of_getElem? (i := 198) (by decide +kernel), List.mem_of_getElem? (i := 657) (by decide +kernel), List.mem_of_getElem? (i := 658) (by decide +kernel)⟩
theorem lw_p9 : lw_okq (⟨"SandWorkers$Orders", "readNumber", "(I)Z"⟩, 8) := ⟨⟨by decide +kernel, by decide +kernel⟩, List.mem_of_getElem? (i := 198) (by decide +kernel), List.mem_of_getElem? (i := 665) (by decide +kernel), List.mem_of_getElem? (i := 666) (by decide +kernel)⟩
theorem lw_p10 : lw_okq (⟨"SandWorkers$Orders", "readSign", "(I)Z"⟩, 8) := ⟨⟨by decide +kernel, by decide +kernel⟩, List.mem_of_getElem? (i := 198) (by decide +kernel), List.mem_of_getElem? (i := 669) (by decide +kernel), List.mem_of_getElem? (i := 670) (by decide +kernel)⟩
theorem lw_p11 : lw_okq (⟨"SandWorkers$Orders", "obey", "(LSandWorkers$Game;I)I"⟩, 8) := ⟨⟨by decide +kernel, by decide +kernel⟩, List.mem_of_getElem? (i := 198) (by decide +kernel), List.mem_of_getElem? (i := 673) (by decide +kernel), List.mem_of_getElem? (i := 674) (by decide +kernel)⟩
theorem lw_p12 : lw_okq (⟨"SandWorkersModel", "changes", "()V"⟩, 17) := ⟨⟨by decide +kernel, by decide +kernel⟩, List.mem_of_getElem? (i := 687) (by decide +kernel), List.mem_of_getElem? (i := 750) (by decide +kernel), List.mem_of_getElem? (i := 751) (by decide +kernel)⟩
theorem lw_p13 : lw_okq (⟨"SandWorkersModel", "isWorker", "(II)Z"⟩, 17) := ⟨⟨by decide +kernel, by decide +kernel⟩, List.mem_of_getElem? (i := 687) (by decide +kernel), List.mem_of_getElem? (i := 758) (by decide +kernel), List.mem_of_getElem? (i := 759) (by decide +kernel)⟩
theorem lw_p14 : lw_okq (⟨"SandWorkersModel", "isPlayer", "(I)Z"⟩, 17) := ⟨⟨by decide +kernel, by decide +kernel⟩, List.mem_of_getElem? (i := 687) (by decide +kernel), List.mem_of_getElem? (i := 762) (by decide +kernel), List.mem_of_getElem? (i := 763) (by decide +kernel)⟩
theorem lw_p15 : lw_okq (⟨"SandWorkersModel", "of", "(II)I"⟩, 17) := ⟨⟨by decide +kernel, by decide +kernel⟩, List.mem_of_getElem? (i := 687) (by decide +kernel), List.mem_of_getElem? (i := 770) (by decide +kernel), List.mem_of_getElem? (i := 771) (by decide +kernel)⟩
def lw_privs_1 : List (MethodName × Nat) := [(⟨"SandWorkers", "startTrial", "()V"⟩, 4), (⟨"SandWorkers", "keepTrial", "(I)I"⟩, 4), (⟨"SandWorkers$History", "dropOldest", "()V"⟩, 2), (⟨"SandWorkers$Game", "addIfDue", "(I)V"⟩, 7), (⟨"SandWorkers$Game", "finishDue", "()I"⟩, 7), (⟨"SandWorkers$Game", "takeEffect", "(II)V"⟩, 7), (⟨"SandWorkers$Glasses", "aheadOnTask", "(I)I"⟩, 8), (⟨"SandWorkers$Orders", "readOrder", "()Z"⟩, 8), (⟨"SandWorkers$Orders", "signAt", "(I)I"⟩, 8), (⟨"SandWorkers$Orders", "readNumber", "(I)Z"⟩, 8), (⟨"SandWorkers$Orders", "readSign", "(I)Z"⟩, 8), (⟨"SandWorkers$Orders", "obey", "(LSandWorkers$Game;I)I"⟩, 8), (⟨"SandWorkersModel", "changes", "()V"⟩, 17), (⟨"SandWorkersModel", "isWorker", "(II)Z"⟩, 17), (⟨"SandWorkersModel", "isPlayer", "(I)Z"⟩, 17), (⟨"SandWorkersModel", "of", "(II)I"⟩, 17)]
theorem lw_r1 : ∀ q ∈ lw_privs_1, lw_okq q := List.forall_mem_cons.mpr ⟨lw_p0, List.forall_mem_cons.mpr ⟨lw_p1, List.forall_mem_cons.mpr ⟨lw_p2, List.forall_mem_cons.mpr ⟨lw_p3, List.forall_mem_cons.mpr ⟨lw_p4, List.forall_mem_cons.mpr ⟨lw_p5, List.forall_mem_cons.mpr ⟨lw_p6, List.forall_mem_cons.mpr ⟨lw_p7, List.forall_mem_cons.mpr ⟨lw_p8, List.forall_mem_cons.mpr ⟨lw_p9, List.forall_mem_cons.mpr ⟨lw_p10, List.forall_mem_cons.mpr ⟨lw_p11, List.forall_mem_cons.mpr ⟨lw_p12, List.forall_mem_cons.mpr ⟨lw_p13, List.forall_mem_cons.mpr ⟨lw_p14, List.forall_mem_cons.mpr ⟨lw_p15, fun _ h => absurd h List.not_mem_nil⟩⟩⟩⟩⟩⟩⟩⟩⟩⟩⟩⟩⟩⟩⟩⟩
theorem lw_p16 : lw_okq (⟨"SandWorkersModel", "isTask", "(I)Z"⟩, 17) := ⟨⟨by decide +kernel, by decide +kernel⟩, List.mem_of_getElem? (i := 687) (by decide +kernel), List.mem_of_getElem? (i := 787) (by decide +kernel), List.mem_of_getElem? (i := 788) (by decide +kernel)⟩
theorem lw_p17 : lw_okq (⟨"SandWorkersModel", "canPut", "(II)Z"⟩, 17) := ⟨⟨by decide +kernel, by decide +kernel⟩, List.mem_of_getElem? (i := 687) (by decide +kernel), List.mem_of_getElem? (i := 791) (by decide +kernel), List.mem_of_getElem? (i := 792) (by decide +kernel)⟩
theorem lw_p18 : lw_okq (⟨"SandWorkersModel", "left", "(I)I"⟩, 17) := ⟨⟨by decide +kernel, by decide +kernel⟩, List.mem_of_getElem? (i := 687) (by decide +kernel), List.mem_of_getElem? (i := 795) (by decide +kernel), List.mem_of_getElem? (i := 796) (by decide +kernel)⟩
theorem lw_p19 : lw_okq (⟨"SandWorkersModel", "ofTask", "(II)I"⟩, 17) := ⟨⟨by decide +kernel, by decide +kernel⟩, List.mem_of_getElem? (i := 687) (by decide +kernel), List.mem_of_getElem? (i := 799) (by decide +kernel), List.mem_of_getElem? (i := 800) (by decide +kernel)⟩
theorem lw_p20 : lw_okq (⟨"SandWorkersModel", "workers", "()I"⟩, 17) := ⟨⟨by decide +kernel, by decide +kernel⟩, List.mem_of_getElem? (i := 687) (by decide +kernel), List.mem_of_getElem? (i := 803) (by decide +kernel), List.mem_of_getElem? (i := 804) (by decide +kernel)⟩
theorem lw_p21 : lw_okq (⟨"SandWorkersModel", "has", "(II)Z"⟩, 17) := ⟨⟨by decide +kernel, by decide +kernel⟩, List.mem_of_getElem? (i := 687) (by decide +kernel), List.mem_of_getElem? (i := 807) (by decide +kernel), List.mem_of_getElem? (i := 808) (by decide +kernel)⟩
theorem lw_p22 : lw_okq (⟨"SandWorkersModel", "puts", "(II)V"⟩, 17) := ⟨⟨by decide +kernel, by decide +kernel⟩, List.mem_of_getElem? (i := 687) (by decide +kernel), List.mem_of_getElem? (i := 814) (by decide +kernel), List.mem_of_getElem? (i := 815) (by decide +kernel)⟩
theorem lw_p23 : lw_okq (⟨"SandWorkersModel", "pays", "(II)V"⟩, 17) := ⟨⟨by decide +kernel, by decide +kernel⟩, List.mem_of_getElem? (i := 687) (by decide +kernel), List.mem_of_getElem? (i := 818) (by decide +kernel), List.mem_of_getElem? (i := 819) (by decide +kernel)⟩
theorem lw_p24 : lw_okq (⟨"SandWorkersModel", "flips", "(I)V"⟩, 17) := ⟨⟨by decide +kernel, by decide +kernel⟩, List.mem_of_getElem? (i := 687) (by decide +kernel), List.mem_of_getElem? (i := 830) (by decide +kernel), List.mem_of_getElem? (i := 831) (by decide +kernel)⟩
theorem lw_p25 : lw_okq (⟨"SandWorkersModel", "works", "()V"⟩, 17) := ⟨⟨by decide +kernel, by decide +kernel⟩, List.mem_of_getElem? (i := 687) (by decide +kernel), List.mem_of_getElem? (i := 834) (by decide +kernel), List.mem_of_getElem? (i := 835) (by decide +kernel)⟩
theorem lw_p26 : lw_okq (⟨"SandWorkersModel", "gains", "(II)V"⟩, 17) := ⟨⟨by decide +kernel, by decide +kernel⟩, List.mem_of_getElem? (i := 687) (by decide +kernel), List.mem_of_getElem? (i := 838) (by decide +kernel), List.mem_of_getElem? (i := 839) (by decide +kernel)⟩
theorem lw_p27 : lw_okq (⟨"SandWorkersModel", "isContract", "(I)Z"⟩, 17) := ⟨⟨by decide +kernel, by decide +kernel⟩, List.mem_of_getElem? (i := 687) (by decide +kernel), List.mem_of_getElem? (i := 846) (by decide +kernel), List.mem_of_getElem? (i := 847) (by decide +kernel)⟩
theorem lw_p28 : lw_okq (⟨"SandWorkersModel", "goes", "()V"⟩, 17) := ⟨⟨by decide +kernel, by decide +kernel⟩, List.mem_of_getElem? (i := 687) (by decide +kernel), List.mem_of_getElem? (i := 854) (by decide +kernel), List.mem_of_getElem? (i := 855) (by decide +kernel)⟩
theorem lw_p29 : lw_okq (⟨"SandWorkersModel", "outs", "(I)I"⟩, 17) := ⟨⟨by decide +kernel, by decide +kernel⟩, List.mem_of_getElem? (i := 687) (by decide +kernel), List.mem_of_getElem? (i := 862) (by decide +kernel), List.mem_of_getElem? (i := 863) (by decide +kernel)⟩
theorem lw_p30 : lw_okq (⟨"SandWorkersModel", "waited", "(I)I"⟩, 17) := ⟨⟨by decide +kernel, by decide +kernel⟩, List.mem_of_getElem? (i := 687) (by decide +kernel), List.mem_of_getElem? (i := 866) (by decide +kernel), List.mem_of_getElem? (i := 867) (by decide +kernel)⟩
theorem lw_p31 : lw_okq (⟨"SandWorkersModel", "nextOut", "(I)I"⟩, 17) := ⟨⟨by decide +kernel, by decide +kernel⟩, List.mem_of_getElem? (i := 687) (by decide +kernel), List.mem_of_getElem? (i := 870) (by decide +kernel), List.mem_of_getElem? (i := 871) (by decide +kernel)⟩
def lw_privs_2 : List (MethodName × Nat) := [(⟨"SandWorkersModel", "isTask", "(I)Z"⟩, 17), (⟨"SandWorkersModel", "canPut", "(II)Z"⟩, 17), (⟨"SandWorkersModel", "left", "(I)I"⟩, 17), (⟨"SandWorkersModel", "ofTask", "(II)I"⟩, 17), (⟨"SandWorkersModel", "workers", "()I"⟩, 17), (⟨"SandWorkersModel", "has", "(II)Z"⟩, 17), (⟨"SandWorkersModel", "puts", "(II)V"⟩, 17), (⟨"SandWorkersModel", "pays", "(II)V"⟩, 17), (⟨"SandWorkersModel", "flips", "(I)V"⟩, 17), (⟨"SandWorkersModel", "works", "()V"⟩, 17), (⟨"SandWorkersModel", "gains", "(II)V"⟩, 17), (⟨"SandWorkersModel", "isContract", "(I)Z"⟩, 17), (⟨"SandWorkersModel", "goes", "()V"⟩, 17), (⟨"SandWorkersModel", "outs", "(I)I"⟩, 17), (⟨"SandWorkersModel", "waited", "(I)I"⟩, 17), (⟨"SandWorkersModel", "nextOut", "(I)I"⟩, 17)]
theorem lw_r2 : ∀ q ∈ lw_privs_2, lw_okq q := List.forall_mem_cons.mpr ⟨lw_p16, List.forall_mem_cons.mpr ⟨lw_p17, List.forall_mem_cons.mpr ⟨lw_p18, List.forall_mem_cons.mpr ⟨lw_p19, List.forall_mem_cons.mpr ⟨lw_p20, List.forall_mem_cons.mpr ⟨lw_p21, List.forall_mem_cons.mpr ⟨lw_p22, List.forall_mem_cons.mpr ⟨lw_p23, List.forall_mem_cons.mpr ⟨lw_p24, List.forall_mem_cons.mpr ⟨lw_p25, List.forall_mem_cons.mpr ⟨lw_p26, List.forall_mem_cons.mpr ⟨lw_p27, List.forall_mem_cons.mpr ⟨lw_p28, List.forall_mem_cons.mpr ⟨lw_p29, List.forall_mem_cons.mpr ⟨lw_p30, List.forall_mem_cons.mpr ⟨lw_p31, fun _ h => absurd h List.not_mem_nil⟩⟩⟩⟩⟩⟩⟩⟩⟩⟩⟩⟩⟩⟩⟩⟩
theorem lw_p32 : lw_okq (⟨"SandWorkersModel", "anySand", "()Z"⟩, 17) := ⟨⟨by decide +kernel, by decide +kernel⟩, List.mem_of_getElem? (i := 687) (by decide +kernel), List.mem_of_getElem? (i := 901) (by decide +kernel), List.mem_of_getElem? (i := 902) (by decide +kernel)⟩
theorem lw_p33 : lw_okq (⟨"SandWorkersModel", "sum", "(I)I"⟩, 17) := ⟨⟨by decide +kernel, by decide +kernel⟩, List.mem_of_getElem? (i := 687) (by decide +kernel), List.mem_of_getElem? (i := 913) (by decide +kernel), List.mem_of_getElem? (i := 914) (by decide +kernel)⟩
theorem lw_p34 : lw_okq (⟨"SandWorkersModel", "ahead", "()I"⟩, 17) := ⟨⟨by decide +kernel, by decide +kernel⟩, List.mem_of_getElem? (i := 687) (by decide +kernel), List.mem_of_getElem? (i := 939) (by decide +kernel), List.mem_of_getElem? (i := 940) (by decide +kernel)⟩
theorem lw_p35 : lw_okq (⟨"SandWorkersModel", "goods", "(I)I"⟩, 17) := ⟨⟨by decide +kernel, by decide +kernel⟩, List.mem_of_getElem? (i := 687) (by decide +kernel), List.mem_of_getElem? (i := 943) (by decide +kernel), List.mem_of_getElem? (i := 944) (by decide +kernel)⟩
theorem lw_p36 : lw_okq (⟨"SandWorkersModel", "plays", "()Z"⟩, 17) := ⟨⟨by decide +kernel, by decide +kernel⟩, List.mem_of_getElem? (i := 687) (by decide +kernel), List.mem_of_getElem? (i := 963) (by decide +kernel), List.mem_of_getElem? (i := 964) (by decide +kernel)⟩
theorem lw_p37 : lw_okq (⟨"SandWorkersModel", "reads", "()Z"⟩, 17) := ⟨⟨by decide +kernel, by decide +kernel⟩, List.mem_of_getElem? (i := 687) (by decide +kernel), List.mem_of_getElem? (i := 967) (by decide +kernel), List.mem_of_getElem? (i := 968) (by decide +kernel)⟩
theorem lw_p38 : lw_okq (⟨"SandWorkersModel", "isAt", "(II)Z"⟩, 17) := ⟨⟨by decide +kernel, by decide +kernel⟩, List.mem_of_getElem? (i := 687) (by decide +kernel), List.mem_of_getElem? (i := 971) (by decide +kernel), List.mem_of_getElem? (i := 972) (by decide +kernel)⟩
theorem lw_p39 : lw_okq (⟨"SandWorkersModel", "number", "(I)Z"⟩, 17) := ⟨⟨by decide +kernel, by decide +kernel⟩, List.mem_of_getElem? (i := 687) (by decide +kernel), List.mem_of_getElem? (i := 978) (by decide +kernel), List.mem_of_getElem? (i := 979) (by decide +kernel)⟩
theorem lw_p40 : lw_okq (⟨"SandWorkersModel", "sign", "(I)Z"⟩, 17) := ⟨⟨by decide +kernel, by decide +kernel⟩, List.mem_of_getElem? (i := 687) (by decide +kernel), List.mem_of_getElem? (i := 982) (by decide +kernel), List.mem_of_getElem? (i := 983) (by decide +kernel)⟩
theorem lw_p41 : lw_okq (⟨"SandWorkersModel", "calls", "()I"⟩, 17) := ⟨⟨by decide +kernel, by decide +kernel⟩, List.mem_of_getElem? (i := 687) (by decide +kernel), List.mem_of_getElem? (i := 986) (by decide +kernel), List.mem_of_getElem? (i := 987) (by decide +kernel)⟩
def lw_privs_3 : List (MethodName × Nat) := [(⟨"SandWorkersModel", "anySand", "()Z"⟩, 17), (⟨"SandWorkersModel", "sum", "(I)I"⟩, 17), (⟨"SandWorkersModel", "ahead", "()I"⟩, 17), (⟨"SandWorkersModel", "goods", "(I)I"⟩, 17), (⟨"SandWorkersModel", "plays", "()Z"⟩, 17), (⟨"SandWorkersModel", "reads", "()Z"⟩, 17), (⟨"SandWorkersModel", "isAt", "(II)Z"⟩, 17), (⟨"SandWorkersModel", "number", "(I)Z"⟩, 17), (⟨"SandWorkersModel", "sign", "(I)Z"⟩, 17), (⟨"SandWorkersModel", "calls", "()I"⟩, 17)]
theorem lw_r3 : ∀ q ∈ lw_privs_3, lw_okq q := List.forall_mem_cons.mpr ⟨lw_p32, List.forall_mem_cons.mpr ⟨lw_p33, List.forall_mem_cons.mpr ⟨lw_p34, List.forall_mem_cons.mpr ⟨lw_p35, List.forall_mem_cons.mpr ⟨lw_p36, List.forall_mem_cons.mpr ⟨lw_p37, List.forall_mem_cons.mpr ⟨lw_p38, List.forall_mem_cons.mpr ⟨lw_p39, List.forall_mem_cons.mpr ⟨lw_p40, List.forall_mem_cons.mpr ⟨lw_p41, fun _ h => absurd h List.not_mem_nil⟩⟩⟩⟩⟩⟩⟩⟩⟩⟩
def lw_privs : List (MethodName × Nat) := lw_privs_1 ++ (lw_privs_2 ++ (lw_privs_3))
def lw_tbl : List Cond := k2_sels lw_privs ++ tables_1
theorem lw_privs_ok : ∀ q ∈ lw_privs, lw_okq q := by
  show ∀ q ∈ lw_privs_1 ++ (lw_privs_2 ++ (lw_privs_3)), lw_okq q
  exact List.forall_mem_append.mpr ⟨lw_r1, List.forall_mem_append.mpr ⟨lw_r2, lw_r3⟩⟩
/-- the streams that the claim lets the run draw from -/
abbrev lw_cs : List Choice := [Jvm.Choice.named "NaN.bits"]
theorem lw_bits : nanBits ∈ lw_cs := by first | decide | exact List.mem_cons_self | simp [lw_cs, nanBits]
def RX0 : String := "SandWorkers$Contracts"
def TX0 : u_T := fun k => match k with
  | 0 => ("SandWorkers$Contracts", "count", "I", false)
  | 1 => ("SandWorkers$Contracts", "price", "[I", true)
  | _ => ("SandWorkers$Contracts", "points", "[I", true)
def tyX0 : Nat → FieldType := fun k => match k with
  | 0 => .int
  | 1 => .array .int
  | _ => .array .int
theorem nmX0 : ∀ a, a < 3 → ∀ b, b < 3 → a ≠ b → (TX0 a).2.1 ≠ (TX0 b).2.1 := by decide +kernel
theorem tyX0_ok : ∀ k, k < 3 → parseFieldDescriptor (TX0 k).2.2.1 = some (tyX0 k) := by decide +kernel
abbrev cX0_init : ByteArray := prog_2_method_1_code
def yX0_init : MethodName := ⟨RX0, "<init>", "()V"⟩
abbrev cX0_copyFrom : ByteArray := prog_2_method_2_code
def yX0_copyFrom : MethodName := ⟨RX0, "copyFrom", "(LSandWorkers$Contracts;)V"⟩
abbrev cX0_remove : ByteArray := prog_2_method_3_code
def yX0_remove : MethodName := ⟨RX0, "remove", "(I)V"⟩
def RX1 : String := "SandWorkers$Game"
def TX1 : u_T := fun k => match k with
  | 0 => ("SandWorkers$Game", "seconds", "I", false)
  | 1 => ("SandWorkers$Game", "players", "LSandWorkers$Players;", true)
  | 2 => ("SandWorkers$Game", "glasses", "LSandWorkers$Glasses;", true)
  | 3 => ("SandWorkers$Game", "tasks", "LSandWorkers$Tasks;", true)
  | 4 => ("SandWorkers$Game", "contracts", "LSandWorkers$Contracts;", true)
  | 5 => ("SandWorkers$Game", "due", "[I", true)
  | _ => ("SandWorkers$Game", "dueCount", "I", false)
def tyX1 : Nat → FieldType := fun k => match k with
  | 0 => .int
  | 1 => .object "SandWorkers$Players"
  | 2 => .object "SandWorkers$Glasses"
  | 3 => .object "SandWorkers$Tasks"
  | 4 => .object "SandWorkers$Contracts"
  | 5 => .array .int
  | _ => .int
theorem nmX1 : ∀ a, a < 7 → ∀ b, b < 7 → a ≠ b → (TX1 a).2.1 ≠ (TX1 b).2.1 := by decide +kernel
theorem tyX1_ok : ∀ k, k < 7 → parseFieldDescriptor (TX1 k).2.2.1 = some (tyX1 k) := by decide +kernel
abbrev cX1_init : ByteArray := prog_3_method_1_code
def yX1_init : MethodName := ⟨RX1, "<init>", "()V"⟩
abbrev cX1_copyFrom : ByteArray := prog_3_method_2_code
def yX1_copyFrom : MethodName := ⟨RX1, "copyFrom", "(LSandWorkers$Game;)V"⟩
abbrev cX1_hasPlayer : ByteArray := prog_3_method_3_code
def yX1_hasPlayer : MethodName := ⟨RX1, "hasPlayer", "(I)Z"⟩
abbrev cX1_hasWorker : ByteArray := prog_3_method_4_code
def yX1_hasWorker : MethodName := ⟨RX1, "hasWorker", "(II)Z"⟩
abbrev cX1_hasTask : ByteArray := prog_3_method_5_code
def yX1_hasTask : MethodName := ⟨RX1, "hasTask", "(I)Z"⟩
abbrev cX1_hasContract : ByteArray := prog_3_method_6_code
def yX1_hasContract : MethodName := ⟨RX1, "hasContract", "(I)Z"⟩
abbrev cX1_addPlayer : ByteArray := prog_3_method_7_code
def yX1_addPlayer : MethodName := ⟨RX1, "addPlayer", "()I"⟩
abbrev cX1_setSize : ByteArray := prog_3_method_8_code
def yX1_setSize : MethodName := ⟨RX1, "setSize", "(III)I"⟩
abbrev cX1_addTask : ByteArray := prog_3_method_9_code
def yX1_addTask : MethodName := ⟨RX1, "addTask", "(IIII)I"⟩
abbrev cX1_layContract : ByteArray := prog_3_method_10_code
def yX1_layContract : MethodName := ⟨RX1, "layContract", "(II)I"⟩
abbrev cX1_placesLeft : ByteArray := prog_3_method_11_code
def yX1_placesLeft : MethodName := ⟨RX1, "placesLeft", "(I)I"⟩
abbrev cX1_canBePut : ByteArray := prog_3_method_12_code
def yX1_canBePut : MethodName := ⟨RX1, "canBePut", "(II)Z"⟩
abbrev cX1_putWorker : ByteArray := prog_3_method_13_code
def yX1_putWorker : MethodName := ⟨RX1, "putWorker", "(III)I"⟩
abbrev cX1_takeHome : ByteArray := prog_3_method_14_code
def yX1_takeHome : MethodName := ⟨RX1, "takeHome", "(II)I"⟩
abbrev cX1_flipByHand : ByteArray := prog_3_method_15_code
def yX1_flipByHand : MethodName := ⟨RX1, "flipByHand", "(II)I"⟩
abbrev cX1_buyContract : ByteArray := prog_3_method_16_code
def yX1_buyContract : MethodName := ⟨RX1, "buyContract", "(II)I"⟩
abbrev cX1_letPass : ByteArray := prog_3_method_17_code
def yX1_letPass : MethodName := ⟨RX1, "letPass", "(I)I"⟩
abbrev cX1_advance : ByteArray := prog_3_method_18_code
def yX1_advance : MethodName := ⟨RX1, "advance", "(I)I"⟩
abbrev cX1_addIfDue : ByteArray := prog_3_method_19_code
def yX1_addIfDue : MethodName := ⟨RX1, "addIfDue", "(I)V"⟩
abbrev cX1_finishDue : ByteArray := prog_3_method_20_code
def yX1_finishDue : MethodName := ⟨RX1, "finishDue", "()I"⟩
abbrev cX1_takeEffect : ByteArray := prog_3_method_21_code
def yX1_takeEffect : MethodName := ⟨RX1, "takeEffect", "(II)V"⟩
abbrev cX1_untilOneIsOut : ByteArray := prog_3_method_22_code
def yX1_untilOneIsOut : MethodName := ⟨RX1, "untilOneIsOut", "(I)I"⟩
abbrev cX1_bestTask : ByteArray := prog_3_method_23_code
def yX1_bestTask : MethodName := ⟨RX1, "bestTask", "(I)I"⟩
abbrev cX1_untilAffordable : ByteArray := prog_3_method_24_code
def yX1_untilAffordable : MethodName := ⟨RX1, "untilAffordable", "(III)I"⟩
def RX2 : String := "SandWorkers$Glasses"
def TX2 : u_T := fun k => match k with
  | 0 => ("SandWorkers$Glasses", "puts", "I", false)
  | 1 => ("SandWorkers$Glasses", "size", "[I", true)
  | 2 => ("SandWorkers$Glasses", "task", "[I", true)
  | 3 => ("SandWorkers$Glasses", "above", "[I", true)
  | 4 => ("SandWorkers$Glasses", "turn", "[I", true)
  | 5 => ("SandWorkers$Glasses", "works", "[I", true)
  | 6 => ("SandWorkers$Glasses", "waiting", "[I", true)
  | _ => ("SandWorkers$Glasses", "flips", "[I", true)
def tyX2 : Nat → FieldType := fun k => match k with
  | 0 => .int
  | 1 => .array .int
  | 2 => .array .int
  | 3 => .array .int
  | 4 => .array .int
  | 5 => .array .int
  | 6 => .array .int
  | _ => .array .int
theorem nmX2 : ∀ a, a < 8 → ∀ b, b < 8 → a ≠ b → (TX2 a).2.1 ≠ (TX2 b).2.1 := by decide +kernel
theorem tyX2_ok : ∀ k, k < 8 → parseFieldDescriptor (TX2 k).2.2.1 = some (tyX2 k) := by decide +kernel
abbrev cX2_init : ByteArray := prog_4_method_1_code
def yX2_init : MethodName := ⟨RX2, "<init>", "()V"⟩
abbrev cX2_copyFrom : ByteArray := prog_4_method_2_code
def yX2_copyFrom : MethodName := ⟨RX2, "copyFrom", "(LSandWorkers$Glasses;)V"⟩
abbrev cX2_isOut : ByteArray := prog_4_method_3_code
def yX2_isOut : MethodName := ⟨RX2, "isOut", "(I)Z"⟩
abbrev cX2_start : ByteArray := prog_4_method_4_code
def yX2_start : MethodName := ⟨RX2, "start", "(II)V"⟩
abbrev cX2_flipOne : ByteArray := prog_4_method_5_code
def yX2_flipOne : MethodName := ⟨RX2, "flipOne", "(I)V"⟩
abbrev cX2_numberOn : ByteArray := prog_4_method_6_code
def yX2_numberOn : MethodName := ⟨RX2, "numberOn", "(I)I"⟩
abbrev cX2_aheadOnTask : ByteArray := prog_4_method_7_code
def yX2_aheadOnTask : MethodName := ⟨RX2, "aheadOnTask", "(I)I"⟩
abbrev cX2_atPlace : ByteArray := prog_4_method_8_code
def yX2_atPlace : MethodName := ⟨RX2, "atPlace", "(II)I"⟩
abbrev cX2_nextOut : ByteArray := prog_4_method_9_code
def yX2_nextOut : MethodName := ⟨RX2, "nextOut", "()I"⟩
abbrev cX2_untilNextOut : ByteArray := prog_4_method_10_code
def yX2_untilNextOut : MethodName := ⟨RX2, "untilNextOut", "()I"⟩
abbrev cX2_outOf : ByteArray := prog_4_method_11_code
def yX2_outOf : MethodName := ⟨RX2, "outOf", "(I)I"⟩
abbrev cX2_worksOf : ByteArray := prog_4_method_12_code
def yX2_worksOf : MethodName := ⟨RX2, "worksOf", "(I)I"⟩
abbrev cX2_waitingOf : ByteArray := prog_4_method_13_code
def yX2_waitingOf : MethodName := ⟨RX2, "waitingOf", "(I)I"⟩
abbrev cX2_allWorks : ByteArray := prog_4_method_14_code
def yX2_allWorks : MethodName := ⟨RX2, "allWorks", "()I"⟩
abbrev cX2_allFlips : ByteArray := prog_4_method_15_code
def yX2_allFlips : MethodName := ⟨RX2, "allFlips", "()I"⟩
abbrev cX2_sumOf : ByteArray := prog_4_method_16_code
def yX2_sumOf : MethodName := ⟨RX2, "sumOf", "([II)I"⟩
abbrev cX2_sumOfAll : ByteArray := prog_4_method_17_code
def yX2_sumOfAll : MethodName := ⟨RX2, "sumOfAll", "([I)I"⟩
def RX3 : String := "SandWorkers$History"
def TX3 : u_T := fun k => match k with
  | 0 => ("SandWorkers$History", "count", "I", false)
  | _ => ("SandWorkers$History", "states", "[LSandWorkers$Game;", true)
def tyX3 : Nat → FieldType := fun k => match k with
  | 0 => .int
  | _ => .array (.object "SandWorkers$Game")
theorem nmX3 : ∀ a, a < 2 → ∀ b, b < 2 → a ≠ b → (TX3 a).2.1 ≠ (TX3 b).2.1 := by decide +kernel
theorem tyX3_ok : ∀ k, k < 2 → parseFieldDescriptor (TX3 k).2.2.1 = some (tyX3 k) := by decide +kernel
abbrev cX3_init : ByteArray := prog_5_method_1_code
def yX3_init : MethodName := ⟨RX3, "<init>", "()V"⟩
abbrev cX3_record : ByteArray := prog_5_method_2_code
def yX3_record : MethodName := ⟨RX3, "record", "(LSandWorkers$Game;)V"⟩
abbrev cX3_dropOldest : ByteArray := prog_5_method_3_code
def yX3_dropOldest : MethodName := ⟨RX3, "dropOldest", "()V"⟩
abbrev cX3_restore : ByteArray := prog_5_method_4_code
def yX3_restore : MethodName := ⟨RX3, "restore", "(LSandWorkers$Game;)I"⟩
def RX4 : String := "SandWorkers$Orders"
def TX4 : u_T := fun k => match k with
  | 0 => ("SandWorkers$Orders", "length", "I", false)
  | 1 => ("SandWorkers$Orders", "obeyed", "I", false)
  | 2 => ("SandWorkers$Orders", "position", "I", false)
  | 3 => ("SandWorkers$Orders", "reason", "I", false)
  | 4 => ("SandWorkers$Orders", "cause", "I", false)
  | 5 => ("SandWorkers$Orders", "cursor", "I", false)
  | 6 => ("SandWorkers$Orders", "text", "[I", true)
  | _ => ("SandWorkers$Orders", "numbers", "[I", true)
def tyX4 : Nat → FieldType := fun k => match k with
  | 0 => .int
  | 1 => .int
  | 2 => .int
  | 3 => .int
  | 4 => .int
  | 5 => .int
  | 6 => .array .int
  | _ => .array .int
theorem nmX4 : ∀ a, a < 8 → ∀ b, b < 8 → a ≠ b → (TX4 a).2.1 ≠ (TX4 b).2.1 := by decide +kernel
theorem tyX4_ok : ∀ k, k < 8 → parseFieldDescriptor (TX4 k).2.2.1 = some (tyX4 k) := by decide +kernel
abbrev cX4_init : ByteArray := prog_6_method_1_code
def yX4_init : MethodName := ⟨RX4, "<init>", "()V"⟩
abbrev cX4_append : ByteArray := prog_6_method_2_code
def yX4_append : MethodName := ⟨RX4, "append", "(I)I"⟩
abbrev cX4_clear : ByteArray := prog_6_method_3_code
def yX4_clear : MethodName := ⟨RX4, "clear", "()I"⟩
abbrev cX4_obeyAll : ByteArray := prog_6_method_4_code
def yX4_obeyAll : MethodName := ⟨RX4, "obeyAll", "(LSandWorkers$Game;)Z"⟩
abbrev cX4_readOrder : ByteArray := prog_6_method_5_code
def yX4_readOrder : MethodName := ⟨RX4, "readOrder", "()Z"⟩
abbrev cX4_readNumber : ByteArray := prog_6_method_6_code
def yX4_readNumber : MethodName := ⟨RX4, "readNumber", "(I)Z"⟩
abbrev cX4_readSign : ByteArray := prog_6_method_7_code
def yX4_readSign : MethodName := ⟨RX4, "readSign", "(I)Z"⟩
abbrev cX4_signAt : ByteArray := prog_6_method_8_code
def yX4_signAt : MethodName := ⟨RX4, "signAt", "(I)I"⟩
abbrev cX4_numbersOf : ByteArray := prog_6_method_9_code
def yX4_numbersOf : MethodName := ⟨RX4, "numbersOf", "(I)I"⟩
abbrev cX4_obey : ByteArray := prog_6_method_10_code
def yX4_obey : MethodName := ⟨RX4, "obey", "(LSandWorkers$Game;I)I"⟩
def RX5 : String := "SandWorkers$Players"
def TX5 : u_T := fun k => match k with
  | 0 => ("SandWorkers$Players", "count", "I", false)
  | 1 => ("SandWorkers$Players", "lost", "I", false)
  | 2 => ("SandWorkers$Players", "goods", "[I", true)
  | _ => ("SandWorkers$Players", "points", "[I", true)
def tyX5 : Nat → FieldType := fun k => match k with
  | 0 => .int
  | 1 => .int
  | 2 => .array .int
  | _ => .array .int
theorem nmX5 : ∀ a, a < 4 → ∀ b, b < 4 → a ≠ b → (TX5 a).2.1 ≠ (TX5 b).2.1 := by decide +kernel
theorem tyX5_ok : ∀ k, k < 4 → parseFieldDescriptor (TX5 k).2.2.1 = some (tyX5 k) := by decide +kernel
abbrev cX5_init : ByteArray := prog_7_method_1_code
def yX5_init : MethodName := ⟨RX5, "<init>", "()V"⟩
abbrev cX5_copyFrom : ByteArray := prog_7_method_2_code
def yX5_copyFrom : MethodName := ⟨RX5, "copyFrom", "(LSandWorkers$Players;)V"⟩
abbrev cX5_amountOf : ByteArray := prog_7_method_3_code
def yX5_amountOf : MethodName := ⟨RX5, "amountOf", "(II)I"⟩
abbrev cX5_have : ByteArray := prog_7_method_4_code
def yX5_have : MethodName := ⟨RX5, "have", "(II)Z"⟩
abbrev cX5_allWhoHave : ByteArray := prog_7_method_5_code
def yX5_allWhoHave : MethodName := ⟨RX5, "allWhoHave", "(I)I"⟩
abbrev cX5_pay : ByteArray := prog_7_method_6_code
def yX5_pay : MethodName := ⟨RX5, "pay", "(II)V"⟩
abbrev cX5_gain : ByteArray := prog_7_method_7_code
def yX5_gain : MethodName := ⟨RX5, "gain", "(II)V"⟩
abbrev cX5_allGoodsOf : ByteArray := prog_7_method_8_code
def yX5_allGoodsOf : MethodName := ⟨RX5, "allGoodsOf", "(I)I"⟩
abbrev cX5_isAheadOf : ByteArray := prog_7_method_9_code
def yX5_isAheadOf : MethodName := ⟨RX5, "isAheadOf", "(II)Z"⟩
abbrev cX5_ahead : ByteArray := prog_7_method_10_code
def yX5_ahead : MethodName := ⟨RX5, "ahead", "()I"⟩
def RX6 : String := "SandWorkers$Tasks"
def TX6 : u_T := fun k => match k with
  | 0 => ("SandWorkers$Tasks", "count", "I", false)
  | 1 => ("SandWorkers$Tasks", "places", "[I", true)
  | 2 => ("SandWorkers$Tasks", "cost", "[I", true)
  | 3 => ("SandWorkers$Tasks", "gain", "[I", true)
  | 4 => ("SandWorkers$Tasks", "effect", "[I", true)
  | _ => ("SandWorkers$Tasks", "works", "[I", true)
def tyX6 : Nat → FieldType := fun k => match k with
  | 0 => .int
  | 1 => .array .int
  | 2 => .array .int
  | 3 => .array .int
  | 4 => .array .int
  | _ => .array .int
theorem nmX6 : ∀ a, a < 6 → ∀ b, b < 6 → a ≠ b → (TX6 a).2.1 ≠ (TX6 b).2.1 := by decide +kernel
theorem tyX6_ok : ∀ k, k < 6 → parseFieldDescriptor (TX6 k).2.2.1 = some (tyX6 k) := by decide +kernel
abbrev cX6_init : ByteArray := prog_8_method_1_code
def yX6_init : MethodName := ⟨RX6, "<init>", "()V"⟩
abbrev cX6_copyFrom : ByteArray := prog_8_method_2_code
def yX6_copyFrom : MethodName := ⟨RX6, "copyFrom", "(LSandWorkers$Tasks;)V"⟩
abbrev cX6_differenceOf : ByteArray := prog_8_method_3_code
def yX6_differenceOf : MethodName := ⟨RX6, "differenceOf", "(I)I"⟩
def RX7 : String := "SandWorkers"
def TX7 : u_T := fun k => match k with
  | 0 => ("SandWorkers", "game", "LSandWorkers$Game;", true)
  | 1 => ("SandWorkers", "trial", "LSandWorkers$Game;", true)
  | 2 => ("SandWorkers", "history", "LSandWorkers$History;", true)
  | _ => ("SandWorkers", "orders", "LSandWorkers$Orders;", true)
def tyX7 : Nat → FieldType := fun k => match k with
  | 0 => .object "SandWorkers$Game"
  | 1 => .object "SandWorkers$Game"
  | 2 => .object "SandWorkers$History"
  | _ => .object "SandWorkers$Orders"
theorem nmX7 : ∀ a, a < 4 → ∀ b, b < 4 → a ≠ b → (TX7 a).2.1 ≠ (TX7 b).2.1 := by decide +kernel
theorem tyX7_ok : ∀ k, k < 4 → parseFieldDescriptor (TX7 k).2.2.1 = some (tyX7 k) := by decide +kernel
abbrev cX7_init : ByteArray := prog_1_method_1_code
def yX7_init : MethodName := ⟨RX7, "<init>", "()V"⟩
abbrev cX7_player : ByteArray := prog_1_method_2_code
def yX7_player : MethodName := ⟨RX7, "player", "()I"⟩
abbrev cX7_size : ByteArray := prog_1_method_3_code
def yX7_size : MethodName := ⟨RX7, "size", "(III)I"⟩
abbrev cX7_task : ByteArray := prog_1_method_4_code
def yX7_task : MethodName := ⟨RX7, "task", "(IIII)I"⟩
abbrev cX7_contract : ByteArray := prog_1_method_5_code
def yX7_contract : MethodName := ⟨RX7, "contract", "(II)I"⟩
abbrev cX7_put : ByteArray := prog_1_method_6_code
def yX7_put : MethodName := ⟨RX7, "put", "(III)I"⟩
abbrev cX7_home : ByteArray := prog_1_method_7_code
def yX7_home : MethodName := ⟨RX7, "home", "(II)I"⟩
abbrev cX7_flip : ByteArray := prog_1_method_8_code
def yX7_flip : MethodName := ⟨RX7, "flip", "(II)I"⟩
abbrev cX7_buy : ByteArray := prog_1_method_9_code
def yX7_buy : MethodName := ⟨RX7, "buy", "(II)I"⟩
abbrev cX7_pass : ByteArray := prog_1_method_10_code
def yX7_pass : MethodName := ⟨RX7, "pass", "(I)I"⟩
abbrev cX7_playerOf : ByteArray := prog_1_method_11_code
def yX7_playerOf : MethodName := ⟨RX7, "playerOf", "(II)I"⟩
abbrev cX7_workerOf : ByteArray := prog_1_method_12_code
def yX7_workerOf : MethodName := ⟨RX7, "workerOf", "(III)I"⟩
abbrev cX7_taskOf : ByteArray := prog_1_method_13_code
def yX7_taskOf : MethodName := ⟨RX7, "taskOf", "(II)I"⟩
abbrev cX7_on : ByteArray := prog_1_method_14_code
def yX7_on : MethodName := ⟨RX7, "on", "(II)I"⟩
abbrev cX7_contractOf : ByteArray := prog_1_method_15_code
def yX7_contractOf : MethodName := ⟨RX7, "contractOf", "(II)I"⟩
abbrev cX7_next : ByteArray := prog_1_method_16_code
def yX7_next : MethodName := ⟨RX7, "next", "(I)I"⟩
abbrev cX7_would : ByteArray := prog_1_method_17_code
def yX7_would : MethodName := ⟨RX7, "would", "(III)I"⟩
abbrev cX7_best : ByteArray := prog_1_method_18_code
def yX7_best : MethodName := ⟨RX7, "best", "(III)I"⟩
abbrev cX7_earns : ByteArray := prog_1_method_19_code
def yX7_earns : MethodName := ⟨RX7, "earns", "(III)I"⟩
abbrev cX7_busy : ByteArray := prog_1_method_20_code
def yX7_busy : MethodName := ⟨RX7, "busy", "(II)I"⟩
abbrev cX7_count : ByteArray := prog_1_method_21_code
def yX7_count : MethodName := ⟨RX7, "count", "(I)I"⟩
abbrev cX7_undo : ByteArray := prog_1_method_22_code
def yX7_undo : MethodName := ⟨RX7, "undo", "()I"⟩
abbrev cX7_type : ByteArray := prog_1_method_23_code
def yX7_type : MethodName := ⟨RX7, "type", "(I)I"⟩
abbrev cX7_clearText : ByteArray := prog_1_method_24_code
def yX7_clearText : MethodName := ⟨RX7, "clearText", "()I"⟩
abbrev cX7_fault : ByteArray := prog_1_method_25_code
def yX7_fault : MethodName := ⟨RX7, "fault", "(I)I"⟩
abbrev cX7_play : ByteArray := prog_1_method_26_code
def yX7_play : MethodName := ⟨RX7, "play", "()I"⟩
abbrev cX7_startTrial : ByteArray := prog_1_method_27_code
def yX7_startTrial : MethodName := ⟨RX7, "startTrial", "()V"⟩
abbrev cX7_keepTrial : ByteArray := prog_1_method_28_code
def yX7_keepTrial : MethodName := ⟨RX7, "keepTrial", "(I)I"⟩
abbrev cX7_within : ByteArray := prog_1_method_29_code
def yX7_within : MethodName := ⟨RX7, "within", "(III)Z"⟩
abbrev cX7_amountIn : ByteArray := prog_1_method_30_code
def yX7_amountIn : MethodName := ⟨RX7, "amountIn", "(II)I"⟩
abbrev cX7_allAmountsIn : ByteArray := prog_1_method_31_code
def yX7_allAmountsIn : MethodName := ⟨RX7, "allAmountsIn", "(I)I"⟩
abbrev cX7_glassOf : ByteArray := prog_1_method_32_code
def yX7_glassOf : MethodName := ⟨RX7, "glassOf", "(II)I"⟩
abbrev cX7_playerWith : ByteArray := prog_1_method_33_code
def yX7_playerWith : MethodName := ⟨RX7, "playerWith", "(I)I"⟩
abbrev cX7_toldOf : ByteArray := prog_1_method_34_code
def yX7_toldOf : MethodName := ⟨RX7, "toldOf", "(I)I"⟩
abbrev cX7_bitsOfShare : ByteArray := prog_1_method_35_code
def yX7_bitsOfShare : MethodName := ⟨RX7, "bitsOfShare", "(F)I"⟩
abbrev cX7_copyRow : ByteArray := prog_1_method_36_code
def yX7_copyRow : MethodName := ⟨RX7, "copyRow", "([I[I)V"⟩
def RX8 : String := "SandWorkersModel"
def TX8 : u_T := fun k => match k with
  | 0 => ("SandWorkersModel", "s", "[I", true)
  | 1 => ("SandWorkersModel", "past", "[I", true)
  | 2 => ("SandWorkersModel", "held", "[I", true)
  | 3 => ("SandWorkersModel", "tried", "[I", true)
  | 4 => ("SandWorkersModel", "pasts", "I", false)
  | 5 => ("SandWorkersModel", "runs", "Z", false)
  | 6 => ("SandWorkersModel", "text", "[I", true)
  | 7 => ("SandWorkersModel", "typed", "I", false)
  | 8 => ("SandWorkersModel", "ends", "[I", true)
  | 9 => ("SandWorkersModel", "ended", "I", false)
  | 10 => ("SandWorkersModel", "spot", "I", false)
  | 11 => ("SandWorkersModel", "from", "I", false)
  | 12 => ("SandWorkersModel", "reason", "I", false)
  | 13 => ("SandWorkersModel", "cause", "I", false)
  | 14 => ("SandWorkersModel", "orders", "I", false)
  | 15 => ("SandWorkersModel", "order", "I", false)
  | _ => ("SandWorkersModel", "numbers", "[I", true)
def tyX8 : Nat → FieldType := fun k => match k with
  | 0 => .array .int
  | 1 => .array .int
  | 2 => .array .int
  | 3 => .array .int
  | 4 => .int
  | 5 => .boolean
  | 6 => .array .int
  | 7 => .int
  | 8 => .array .int
  | 9 => .int
  | 10 => .int
  | 11 => .int
  | 12 => .int
  | 13 => .int
  | 14 => .int
  | 15 => .int
  | _ => .array .int
theorem nmX8 : ∀ a, a < 17 → ∀ b, b < 17 → a ≠ b → (TX8 a).2.1 ≠ (TX8 b).2.1 := by decide +kernel
theorem tyX8_ok : ∀ k, k < 17 → parseFieldDescriptor (TX8 k).2.2.1 = some (tyX8 k) := by decide +kernel
abbrev cX8_init : ByteArray := prog_10_method_1_code
def yX8_init : MethodName := ⟨RX8, "<init>", "()V"⟩
abbrev cX8_in : ByteArray := prog_10_method_3_code
def yX8_in : MethodName := ⟨RX8, "in", "(III)Z"⟩
abbrev cX8_copies : ByteArray := prog_10_method_4_code
def yX8_copies : MethodName := ⟨RX8, "copies", "([I[I)V"⟩
abbrev cX8_changes : ByteArray := prog_10_method_5_code
def yX8_changes : MethodName := ⟨RX8, "changes", "()V"⟩
abbrev cX8_isPlayer : ByteArray := prog_10_method_6_code
def yX8_isPlayer : MethodName := ⟨RX8, "isPlayer", "(I)Z"⟩
abbrev cX8_isWorker : ByteArray := prog_10_method_7_code
def yX8_isWorker : MethodName := ⟨RX8, "isWorker", "(II)Z"⟩
abbrev cX8_isTask : ByteArray := prog_10_method_8_code
def yX8_isTask : MethodName := ⟨RX8, "isTask", "(I)Z"⟩
abbrev cX8_isContract : ByteArray := prog_10_method_9_code
def yX8_isContract : MethodName := ⟨RX8, "isContract", "(I)Z"⟩
abbrev cX8_of : ByteArray := prog_10_method_10_code
def yX8_of : MethodName := ⟨RX8, "of", "(II)I"⟩
abbrev cX8_ofTask : ByteArray := prog_10_method_11_code
def yX8_ofTask : MethodName := ⟨RX8, "ofTask", "(II)I"⟩
abbrev cX8_workers : ByteArray := prog_10_method_12_code
def yX8_workers : MethodName := ⟨RX8, "workers", "()I"⟩
abbrev cX8_amount : ByteArray := prog_10_method_13_code
def yX8_amount : MethodName := ⟨RX8, "amount", "(II)I"⟩
abbrev cX8_has : ByteArray := prog_10_method_14_code
def yX8_has : MethodName := ⟨RX8, "has", "(II)Z"⟩
abbrev cX8_pays : ByteArray := prog_10_method_15_code
def yX8_pays : MethodName := ⟨RX8, "pays", "(II)V"⟩
abbrev cX8_player : ByteArray := prog_10_method_16_code
def yX8_player : MethodName := ⟨RX8, "player", "()I"⟩
abbrev cX8_size : ByteArray := prog_10_method_17_code
def yX8_size : MethodName := ⟨RX8, "size", "(III)I"⟩
abbrev cX8_task : ByteArray := prog_10_method_18_code
def yX8_task : MethodName := ⟨RX8, "task", "(IIII)I"⟩
abbrev cX8_contract : ByteArray := prog_10_method_19_code
def yX8_contract : MethodName := ⟨RX8, "contract", "(II)I"⟩
abbrev cX8_left : ByteArray := prog_10_method_20_code
def yX8_left : MethodName := ⟨RX8, "left", "(I)I"⟩
abbrev cX8_canPut : ByteArray := prog_10_method_21_code
def yX8_canPut : MethodName := ⟨RX8, "canPut", "(II)Z"⟩
abbrev cX8_puts : ByteArray := prog_10_method_22_code
def yX8_puts : MethodName := ⟨RX8, "puts", "(II)V"⟩
abbrev cX8_put : ByteArray := prog_10_method_23_code
def yX8_put : MethodName := ⟨RX8, "put", "(III)I"⟩
abbrev cX8_home : ByteArray := prog_10_method_24_code
def yX8_home : MethodName := ⟨RX8, "home", "(II)I"⟩
abbrev cX8_flips : ByteArray := prog_10_method_25_code
def yX8_flips : MethodName := ⟨RX8, "flips", "(I)V"⟩
abbrev cX8_gains : ByteArray := prog_10_method_26_code
def yX8_gains : MethodName := ⟨RX8, "gains", "(II)V"⟩
abbrev cX8_works : ByteArray := prog_10_method_27_code
def yX8_works : MethodName := ⟨RX8, "works", "()V"⟩
abbrev cX8_flip : ByteArray := prog_10_method_28_code
def yX8_flip : MethodName := ⟨RX8, "flip", "(II)I"⟩
abbrev cX8_buy : ByteArray := prog_10_method_29_code
def yX8_buy : MethodName := ⟨RX8, "buy", "(II)I"⟩
abbrev cX8_goes : ByteArray := prog_10_method_30_code
def yX8_goes : MethodName := ⟨RX8, "goes", "()V"⟩
abbrev cX8_pass : ByteArray := prog_10_method_31_code
def yX8_pass : MethodName := ⟨RX8, "pass", "(I)I"⟩
abbrev cX8_outs : ByteArray := prog_10_method_32_code
def yX8_outs : MethodName := ⟨RX8, "outs", "(I)I"⟩
abbrev cX8_waited : ByteArray := prog_10_method_33_code
def yX8_waited : MethodName := ⟨RX8, "waited", "(I)I"⟩
abbrev cX8_nextOut : ByteArray := prog_10_method_34_code
def yX8_nextOut : MethodName := ⟨RX8, "nextOut", "(I)I"⟩
abbrev cX8_playerOf : ByteArray := prog_10_method_35_code
def yX8_playerOf : MethodName := ⟨RX8, "playerOf", "(II)I"⟩
abbrev cX8_workerOf : ByteArray := prog_10_method_36_code
def yX8_workerOf : MethodName := ⟨RX8, "workerOf", "(III)I"⟩
abbrev cX8_taskOf : ByteArray := prog_10_method_37_code
def yX8_taskOf : MethodName := ⟨RX8, "taskOf", "(II)I"⟩
abbrev cX8_told : ByteArray := prog_10_method_38_code
def yX8_told : MethodName := ⟨RX8, "told", "(I)I"⟩
abbrev cX8_on : ByteArray := prog_10_method_39_code
def yX8_on : MethodName := ⟨RX8, "on", "(II)I"⟩
abbrev cX8_contractOf : ByteArray := prog_10_method_40_code
def yX8_contractOf : MethodName := ⟨RX8, "contractOf", "(II)I"⟩
abbrev cX8_anySand : ByteArray := prog_10_method_41_code
def yX8_anySand : MethodName := ⟨RX8, "anySand", "()Z"⟩
abbrev cX8_next : ByteArray := prog_10_method_42_code
def yX8_next : MethodName := ⟨RX8, "next", "(I)I"⟩
abbrev cX8_would : ByteArray := prog_10_method_43_code
def yX8_would : MethodName := ⟨RX8, "would", "(III)I"⟩
abbrev cX8_sum : ByteArray := prog_10_method_44_code
def yX8_sum : MethodName := ⟨RX8, "sum", "(I)I"⟩
abbrev cX8_best : ByteArray := prog_10_method_45_code
def yX8_best : MethodName := ⟨RX8, "best", "(III)I"⟩
abbrev cX8_earns : ByteArray := prog_10_method_46_code
def yX8_earns : MethodName := ⟨RX8, "earns", "(III)I"⟩
abbrev cX8_busy : ByteArray := prog_10_method_47_code
def yX8_busy : MethodName := ⟨RX8, "busy", "(II)I"⟩
abbrev cX8_goods : ByteArray := prog_10_method_48_code
def yX8_goods : MethodName := ⟨RX8, "goods", "(I)I"⟩
abbrev cX8_ahead : ByteArray := prog_10_method_49_code
def yX8_ahead : MethodName := ⟨RX8, "ahead", "()I"⟩
abbrev cX8_count : ByteArray := prog_10_method_50_code
def yX8_count : MethodName := ⟨RX8, "count", "(I)I"⟩
abbrev cX8_undo : ByteArray := prog_10_method_51_code
def yX8_undo : MethodName := ⟨RX8, "undo", "()I"⟩
abbrev cX8_type : ByteArray := prog_10_method_52_code
def yX8_type : MethodName := ⟨RX8, "type", "(I)I"⟩
abbrev cX8_clearText : ByteArray := prog_10_method_53_code
def yX8_clearText : MethodName := ⟨RX8, "clearText", "()I"⟩
abbrev cX8_isAt : ByteArray := prog_10_method_54_code
def yX8_isAt : MethodName := ⟨RX8, "isAt", "(II)Z"⟩
abbrev cX8_sign : ByteArray := prog_10_method_55_code
def yX8_sign : MethodName := ⟨RX8, "sign", "(I)Z"⟩
abbrev cX8_number : ByteArray := prog_10_method_56_code
def yX8_number : MethodName := ⟨RX8, "number", "(I)Z"⟩
abbrev cX8_numbersOf : ByteArray := prog_10_method_57_code
def yX8_numbersOf : MethodName := ⟨RX8, "numbersOf", "(I)I"⟩
abbrev cX8_reads : ByteArray := prog_10_method_58_code
def yX8_reads : MethodName := ⟨RX8, "reads", "()Z"⟩
abbrev cX8_calls : ByteArray := prog_10_method_59_code
def yX8_calls : MethodName := ⟨RX8, "calls", "()I"⟩
abbrev cX8_plays : ByteArray := prog_10_method_60_code
def yX8_plays : MethodName := ⟨RX8, "plays", "()Z"⟩
abbrev cX8_fault : ByteArray := prog_10_method_61_code
def yX8_fault : MethodName := ⟨RX8, "fault", "(I)I"⟩
abbrev cX8_play : ByteArray := prog_10_method_62_code
def yX8_play : MethodName := ⟨RX8, "play", "()I"⟩
def RJxf58ca : String := "java/lang/Float"
def TJxf58ca : u_T := fun k => match k with
  | _ => ("", "", "", false)
def tyJxf58ca : Nat → FieldType := fun k => match k with
  | _ => .int
abbrev cJxf58ca_isNaN_12338 : ByteArray := prog_11_method_6_code
def yJxf58ca_isNaN_12338 : MethodName := ⟨RJxf58ca, "isNaN", "(F)Z"⟩
abbrev cJxf58ca_floatToIntBits_5c35a : ByteArray := prog_11_method_24_code
def yJxf58ca_floatToIntBits_5c35a : MethodName := ⟨RJxf58ca, "floatToIntBits", "(F)I"⟩
def RJ9 : String := "java/lang/Math"
def TJ9 : u_T := fun k => match k with
  | _ => ("", "", "", false)
def tyJ9 : Nat → FieldType := fun k => match k with
  | _ => .int
abbrev cJ9_max_7cf53 : ByteArray := prog_12_method_65_code
def yJ9_max_7cf53 : MethodName := ⟨RJ9, "max", "(II)I"⟩
abbrev cJ9_min_7cf53 : ByteArray := prog_12_method_69_code
def yJ9_min_7cf53 : MethodName := ⟨RJ9, "min", "(II)I"⟩
def RJ10 : String := "java/lang/System"
def TJ10 : u_T := fun k => match k with
  | _ => ("", "", "", false)
def tyJ10 : Nat → FieldType := fun k => match k with
  | _ => .int
def RL : String := "SandWorkersLaw"
abbrev cL_law : ByteArray := code
abbrev vwCl : List vw_C := [(RX0, TX0, 3), (RX1, TX1, 7), (RX2, TX2, 8), (RX3, TX3, 2), (RX4, TX4, 8), (RX5, TX5, 4), (RX6, TX6, 6), (RX7, TX7, 4), (RX8, TX8, 17)]
end
section
/-! THE WORDS: one list for every method -/
def BIG : List Cond := lw_tbl.filter goodWord
theorem big_of {w : Cond} (h : w ∈ lw_tbl) (hg : goodWord w = true) : w ∈ BIG := List.mem_filter.mpr ⟨h, hg⟩
theorem big_1 {i : Nat} {w : Cond} (h : tables_1_1[i]? = some w) (hg : goodWord w = true) : w ∈ BIG := big_of (List.mem_append_right _ (List.mem_append_left _ (List.mem_of_getElem? h))) hg
theorem big_2 {i : Nat} {w : Cond} (h : tables_1_2[i]? = some w) (hg : goodWord w = true) : w ∈ BIG := big_of (List.mem_append_right _ (List.mem_append_right _ (List.mem_append_left _ (List.mem_of_getElem? h)))) hg
theorem big_3 {i : Nat} {w : Cond} (h : tables_1_3[i]? = some w) (hg : goodWord w = true) : w ∈ BIG := big_of (List.mem_append_right _ (List.mem_append_right _ (List.mem_append_right _ (List.mem_append_left _ (List.mem_of_getElem? h))))) hg
theorem big_4 {i : Nat} {w : Cond} (h : tables_1_4[i]? = some w) (hg : goodWord w = true) : w ∈ BIG := big_of (List.mem_append_right _ (List.mem_append_right _ (List.mem_append_right _ (List.mem_append_right _ (List.mem_append_left _ (List.mem_of_getElem? h)))))) hg
theorem big_5 {i : Nat} {w : Cond} (h : tables_1_5[i]? = some w) (hg : goodWord w = true) : w ∈ BIG := big_of (List.mem_append_right _ (List.mem_append_right _ (List.mem_append_right _ (List.mem_append_right _ (List.mem_append_right _ (List.mem_of_getElem? h)))))) hg
theorem big_p {i : Nat} {q : MethodName × Nat} (h : lw_privs[i]? = some q) : Cond.selects q.1.cls q.1 q.1 ∈ BIG := big_of (List.mem_append_left _ (List.mem_map.mpr ⟨q, List.mem_of_getElem? h, rfl⟩)) rfl
theorem big_good {ws : List Cond} (h : ∀ w ∈ ws, w ∈ BIG) : GoodIn BIG ws := fun w hw => ⟨h w hw, good_of_word (List.mem_filter.mp (h w hw)).2⟩
theorem big_big : ∀ w ∈ BIG, w ∈ BIG := fun _ h => h
/-! nest links -/
def nwl : List (String × Nat × MethodName × String) := [(RX0, 22, yX7_copyRow, RX7), (RX1, 118, yX7_playerWith, RX7), (RX1, 63, yX7_within, RX7), (RX1, 79, yX7_glassOf, RX7), (RX2, 37, yX7_copyRow, RX7), (RX2, 54, yX7_glassOf, RX7), (RX4, 60, yX7_within, RX7), (RX5, 25, yX7_copyRow, RX7), (RX5, 33, yX7_amountIn, RX7), (RX6, 31, yX7_copyRow, RX7), (RX6, 35, yX7_allAmountsIn, RX7)]
def NW (U : State) : Prop := ∀ q ∈ nwl, va_Nw (.methodLinkNest q.1 q.2.1 q.2.2.1 q.2.2.2) U
theorem NW.warm {s U : State} (hW : s.WarmedH U.vm) (h : NW s) : NW U := fun q hq => va_Nw.warmM hW (h q hq)
theorem NW.same {u U : State} (hv : u.vm = U.vm) (h : NW u) : NW U := fun q hq => va_Nw.same rfl hv (h q hq)
/-! the classes' facts that stay: G = (their numbers, int arrays' number, the number of arrays of Game) -/
abbrev GG : Type := va_G × ClassId × ClassId
def KK (G : GG) (U : State) : Prop := va_K G.1 vwCl [(G.2.1, .int), (G.2.2, .object RX1)] U ∧ NW U
theorem KK.warm {G : GG} {s U : State} (hW : s.WarmedH U.vm) (h : KK G s) : KK G U := ⟨va_K.moved hW.alike h.1, h.2.warm hW⟩
theorem KK.calling {G : GG} {U : State} {a : Array Value} {g : JFrame} {mk : MethodId} (h : KK G U) : KK G (U.calling g mk a) := ⟨va_K.moved (u := U) (U := U.calling g mk a) (Vm.Alike.refl U.vm) h.1, h.2.same rfl⟩
/-! REGIONS: cells side by side from an address on, of a fixed layout; what they hold of ints is a function -/
abbrev KD : Type := Nat ⊕ (Nat × List (Option Nat))
abbrev Mem : Type := Nat → Nat → Int32
def up (γ : Mem) (k f : Nat) (v : Int32) : Mem := fun k' => if k' = k then upd (γ k) f v else γ k'
theorem up_s (γ : Mem) (k f : Nat) (v : Int32) : up γ k f v k = upd (γ k) f v := if_pos rfl
theorem up_n (γ : Mem) {k j : Nat} (f : Nat) (v : Int32) (h : j ≠ k) : up γ k f v j = γ j := if_neg h
def rfs (a : Nat) (g : Nat → Int32) : Nat → List (Option Nat) → List Value
  | _, [] => []
  | i, none :: t => .int (g i) :: rfs a g (i + 1) t
  | i, some o :: t => .ref (a + o) :: rfs a g (i + 1) t
theorem rfs_len (a : Nat) (g : Nat → Int32) : ∀ (fs : List (Option Nat)) (i : Nat), (rfs a g i fs).length = fs.length
  | [], _ => rfl
  | none :: t, i => by simp [rfs, rfs_len a g t]
  | some o :: t, i => by simp [rfs, rfs_len a g t]
theorem rfs_int (a : Nat) (g : Nat → Int32) : ∀ (fs : List (Option Nat)) (i f : Nat), fs[f]? = some none → (rfs a g i fs)[f]? = some (.int (g (i + f)))
  | [], _, f, h => by simp at h
  | none :: t, i, 0, _ => by simp [rfs]
  | some o :: t, i, 0, h => by simp at h
  | none :: t, i, f + 1, h => by
    have := rfs_int a g t (i + 1) f (by simpa using h)
    rw [show i + (f + 1) = i + 1 + f by omega]
    simpa [rfs] using this
  | some o :: t, i, f + 1, h => by
    have := rfs_int a g t (i + 1) f (by simpa using h)
    rw [show i + (f + 1) = i + 1 + f by omega]
    simpa [rfs] using this
theorem rfs_ref (a : Nat) (g : Nat → Int32) : ∀ (fs : List (Option Nat)) (i f o : Nat), fs[f]? = some (some o) → (rfs a g i fs)[f]? = some (.ref (a + o))
  | [], _, f, o, h => by simp at h
  | none :: t, i, 0, o, h => by simp at h
  | some o' :: t, i, 0, o, h => by
    have : o' = o := by simpa using h
    subst this
    simp [rfs]
  | none :: t, i, f + 1, o, h => by
    have := rfs_ref a g t (i + 1) f o (by simpa using h)
    simpa [rfs] using this
  | some o' :: t, i, f + 1, o, h => by
    have := rfs_ref a g t (i + 1) f o (by simpa using h)
    simpa [rfs] using this
theorem rfs_cong (a : Nat) {g g' : Nat → Int32} : ∀ (fs : List (Option Nat)) (i : Nat), (∀ j, i ≤ j → g j = g' j) → rfs a g i fs = rfs a g' i fs
  | [], _, _ => rfl
  | none :: t, i, h => by simp [rfs, h i (Nat.le_refl _), rfs_cong a t (i + 1) (fun j hj => h j (by omega))]
  | some o :: t, i, h => by simp [rfs, rfs_cong a t (i + 1) (fun j hj => h j (by omega))]
theorem rfs_set (a : Nat) (g : Nat → Int32) (v : Int32) : ∀ (fs : List (Option Nat)) (i f : Nat), fs[f]? = some none → (rfs a g i fs).set f (.int v) = rfs a (upd g (i + f) v) i fs
  | [], _, f, h => by simp at h
  | none :: t, i, 0, _ => by
    simp only [rfs, List.set_cons_zero, Nat.add_zero]
    rw [show upd g i v i = v from pk_us, rfs_cong a t (i + 1) (fun j hj => (pk_un (f := g) (k := i) (x := v) (by omega)).symm)]
  | some o :: t, i, 0, h => by simp at h
  | none :: t, i, f + 1, h => by
    have e := rfs_set a g v t (i + 1) f (by simpa using h)
    simp only [rfs, List.set_cons_succ]
    rw [e, pk_un (by omega : i ≠ i + (f + 1)), show i + 1 + f = i + (f + 1) by omega]
  | some o :: t, i, f + 1, h => by
    have e := rfs_set a g v t (i + 1) f (by simpa using h)
    simp only [rfs, List.set_cons_succ]
    rw [e, show i + 1 + f = i + (f + 1) by omega]
def rcell (G : GG) (a : Nat) (g : Nat → Int32) : KD → va_E
  | .inl n => .inl (G.2.1, n, .inl g)
  | .inr (ci, fs) => .inr (ci, rfs a g 0 fs)
def rg (G : GG) (L : List KD) (a : Nat) (γ : Mem) (H : Heap) : Prop := ∀ (k : Nat) (kd : KD), L[k]? = some kd → va_at G.1 vwCl (a + k, rcell G a (γ k) kd) H
theorem rg.kept {G : GG} {L : List KD} {a : Nat} {γ : Mem} {H H1 : Heap} (h : rg G L a γ H) (hq : ∀ k, k < L.length → H1[a + k]? = H[a + k]?) : rg G L a γ H1 := fun k kd hk => (h k kd hk).kept (hq k (List.getElem?_eq_some_iff.mp hk).1)
theorem rg.lt {G : GG} {L : List KD} {a : Nat} {γ : Mem} {H : Heap} (h : rg G L a γ H) {k : Nat} (hk : k < L.length) : a + k < H.size := (h k L[k] (List.getElem?_eq_getElem hk)).lt
/-- behind a call that changes nothing of it -/
theorem rg.past {G : GG} {L : List KD} {a : Nat} {γ : Mem} {H H1 : Heap} {A : Nat → Prop} (h : rg G L a γ H) (hq : ∀ q, q < H.size → ¬ A q → H1[q]? = H[q]?) (hA : ∀ k, k < L.length → ¬ A (a + k)) : rg G L a γ H1 := h.kept fun k hk => hq _ (h.lt hk) (hA k hk)
def RA (a n : Nat) : Nat → Prop := fun q => a ≤ q ∧ q < a + n
theorem RA_in {a n k : Nat} (h : k < n) : RA a n (a + k) := ⟨Nat.le_add_right _ _, Nat.add_lt_add_left h _⟩
theorem rg.one {G : GG} {L : List KD} {a : Nat} {γ : Mem} {H : Heap} (h : rg G L a γ H) {k : Nat} {kd : KD} (hk : L[k]? = some kd) : va_P G.1 vwCl [(a + k, rcell G a (γ k) kd)] H := by
  intro i q hq
  cases i with
  | zero => cases hq; exact h k kd hk
  | succ i => simp at hq
/-! a class's field in the class files: link number 'index' in class 'own' is field f of class ci -/
def FL (own : String) (index ci f : Nat) : Prop := ∃ (C : String) (T : u_T) (N : Nat), vwCl[ci]? = some (C, T, N) ∧ (∀ w ∈ u_ws C T N, w ∈ BIG) ∧ f < N ∧ Cond.fieldLink own index C (T f).2.1 (T f).2.2.1 ∈ BIG ∧ (T f).1 = C
def FP (ci f : Nat) (ty : FieldType) : Prop := ∃ (C : String) (T : u_T) (N : Nat) (ty0 : Nat → FieldType), vwCl[ci]? = some (C, T, N) ∧ (∀ k, k < N → parseFieldDescriptor (T k).2.2.1 = some (ty0 k)) ∧ (∀ a, a < N → ∀ b, b < N → a ≠ b → (T a).2.1 ≠ (T b).2.1) ∧ f < N ∧ (T f).2.2.2 = false ∧ parseFieldDescriptor (T f).2.2.1 = some ty
/-! a method in the class files -/
def MW (y : MethodName) (bytes : ByteArray) (maxL : Nat) (ret : Option FieldType) (n : Nat) : Prop := Cond.code y bytes maxL ret ∈ BIG ∧ Cond.initialized y.cls ∈ BIG ∧ (y.cls ≠ "java/lang/invoke/MethodHandle" ∧ y.cls ≠ "java/lang/invoke/VarHandle" ∧ (parseMethodDescriptor y.desc).map (fun d => d.parameters.length) = some n)
/-- an instance method -/
def MI (y : MethodName) : Prop := Cond.instanceMethod y ∈ BIG ∧ Cond.selects y.cls y y ∈ BIG
def CX (p : Program) (m : MethodId) (meth : Method) (c : Code) (s : State) (args : Array Value) (cc : ByteArray) (own : String) (nL : Nat) : Prop := p.tables.exec = Jvm.exec ∧ c.code = cc ∧ c.maxLocals = nL ∧ s.vm.findClass own = some m.cls ∧ (∀ w ∈ BIG, w.before args s = true) ∧ meth.locks = false
/-! contracts: P what the heap holds at the start, P' at the end, A which old cells may change -/
def CtI (l : Launch) (y : MethodName) (bytes : ByteArray) (maxL : Nat) (ret : Option FieldType) (rm : Room) (av : List Value) (G : GG) {S : Type} (P : Heap → Prop) (post : Int32 → S → Prop) (P' : S → Heap → Prop) (A : Nat → Prop) : Prop :=
  Met l y (Cond.code y bytes maxL ret :: BIG) rm (va_Pc av (fun U => P U.heap ∧ KK G U)) (va_Qi post (fun u t => P' u t.heap ∧ KK G t) A) 0 0 A
def CtV (l : Launch) (y : MethodName) (bytes : ByteArray) (maxL : Nat) (rm : Room) (av : List Value) (G : GG) {S : Type} (P : Heap → Prop) (post : S → Prop) (P' : S → Heap → Prop) (A : Nat → Prop) : Prop :=
  Met l y (Cond.code y bytes maxL none :: BIG) rm (va_Pc av (fun U => P U.heap ∧ KK G U)) (va_Qv post (fun u t => P' u t.heap ∧ KK G t) A) 0 0 A
theorem met_start {l : Launch} {y : MethodName} {cc : ByteArray} {maxL : Nat} {ret : Option FieldType} {rm : Room} {av : List Value} {G : GG} {P : Heap → Prop} {Qc : Array Value → State → Outcome → State → Prop} {A : Nat → Prop} {own : String} (hy : plainName y.cls = true) (hown : y.cls = own) (hsl : (lg_sl av).length ≤ maxL)
    (body : ∀ (p : Program) (e : Env) (s : State) (m : MethodId) (below : List Frame) (meth : Method) (c : Code) (ls : Array Slot), CX p m meth c s av.toArray cc own maxL → meth.sig.returnType = ret → P s.heap → KK G s → lv_has ls maxL (lv_args 0 av) → W p l e rm s m av.toArray below meth c s.heap [] 0 0 (MQ below Qc av.toArray s 0 0 A) (F0 m 0 ls [])) :
    Met l y (Cond.code y cc maxL ret :: BIG) rm (va_Pc av (fun U => P U.heap ∧ KK G U)) Qc 0 0 A := by
  refine Met.ofW (cc := cc) (maxL := maxL) (ret := ret) hy rfl ?_
  intro p e s m args below meth c s₁ B hml hv
  obtain ⟨rfl, hP, hK⟩ := hv
  have hts := atoms_spec (ws := Cond.code y cc maxL ret :: BIG) B.pre
  have hl := lv_entry av (n := maxL) hsl
  rw [lg_entry_eq]
  subst hown
  exact body p e s m below meth c _ ⟨B.exec, B.bytes, hml, findClass_of_methodNamed B.named, fun w hw => hts w (List.mem_cons_of_mem _ hw), B.notSynchronized⟩ B.returns hP hK hl
section RG
variable {p : Program} {l : Launch} {e : Env} {R : Room} {s : State} {m : MethodId} {args : Array Value} {below : List Frame} {meth : Method} {c : Code} {H : Heap} {locs : List Loc} {cells slots : Nat} {Q : State → Prop}
variable {cc : ByteArray} {own : String} {nL pc : Nat} {ls : Array Slot} {rest : List Value} {G : GG} {A : Nat → Prop} {L : List KD} {a : Nat} {γ : Mem} {H0 : Heap}
theorem g_getI (C : CX p m meth c s args cc own nL) (hK : KK G s) (hG : rg G L a γ H) {index ci f k : Nat} {fs : List (Option Nat)} (hF : FL own index ci f) (hk : L[k]? = some (.inr (ci, fs))) (hf : fs[f]? = some none) (hdg : decode cc pc = .ok (.getfield index, 3))
    (kk : W p l e R s m args below meth c H locs cells slots Q (F0 m (pc + 3) ls (.int (γ k f) :: rest))) : W p l e R s m args below meth c H locs cells slots Q (F0 m pc ls (.ref (a + k) :: rest)) := by
  obtain ⟨hx, hb, hml, hown, hts, -⟩ := C
  obtain ⟨C0, T, N, hc, hin, hfN, hlink, hsame⟩ := hF
  refine va_get (ref := C0) (ws := [(a + k, rcell G a (γ k) (.inr (ci, fs)))]) hx hb hts hin hown hK.1 (hG.one hk) 0 rfl hc f hfN (hts _ hlink) (fun x h => by rw [hsame] at h; exact h) (v := .int (γ k f)) ?_ hdg kk
  have := rfs_int a (γ k) fs 0 f hf
  rwa [Nat.zero_add] at this
theorem g_getR (C : CX p m meth c s args cc own nL) (hK : KK G s) (hG : rg G L a γ H) {index ci f k o : Nat} {fs : List (Option Nat)} (hF : FL own index ci f) (hk : L[k]? = some (.inr (ci, fs))) (hf : fs[f]? = some (some o)) (hdg : decode cc pc = .ok (.getfield index, 3))
    (kk : W p l e R s m args below meth c H locs cells slots Q (F0 m (pc + 3) ls (.ref (a + o) :: rest))) : W p l e R s m args below meth c H locs cells slots Q (F0 m pc ls (.ref (a + k) :: rest)) := by
  obtain ⟨hx, hb, hml, hown, hts, -⟩ := C
  obtain ⟨C0, T, N, hc, hin, hfN, hlink, hsame⟩ := hF
  exact va_get (ref := C0) (ws := [(a + k, rcell G a (γ k) (.inr (ci, fs)))]) hx hb hts hin hown hK.1 (hG.one hk) 0 rfl hc f hfN (hts _ hlink) (fun x h => by rw [hsame] at h; exact h) (v := .ref (a + o)) (rfs_ref a (γ k) fs 0 f o hf) hdg kk
theorem rg.put {k f : Nat} {fs : List (Option Nat)} {ci : Nat} {v : Int32} {H1 : Heap} (hG : rg G L a γ H) (hk : L[k]? = some (.inr (ci, fs))) (hf : fs[f]? = some none) (he : va_at G.1 vwCl (a + k, .inr (ci, (rfs a (γ k) 0 fs).set f (.int v))) H1) (oq : ∀ q, q ≠ a + k → H1[q]? = H[q]?) : rg G L a (up γ k f v) H1 := by
  intro j kd hj
  by_cases hjk : j = k
  · subst hjk
    rw [hk] at hj
    cases hj
    rw [up_s]
    rw [rfs_set a (γ j) v fs 0 f hf, Nat.zero_add] at he
    exact he
  · rw [up_n γ f v hjk]
    exact (hG j kd hj).kept (oq _ (fun q => hjk (Nat.add_left_cancel q)))
theorem g_put (C : CX p m meth c s args cc own nL) (hK : KK G s) (hG : rg G L a γ H) (hS : va_S A H0 H locs) {index ci f k : Nat} {fs : List (Option Nat)} {ty : FieldType} {v : Int32} (hF : FL own index ci f) (hFP : FP ci f ty) (hk : L[k]? = some (.inr (ci, fs))) (hf : fs[f]? = some none) (hn : narrow ty (.int v) = .int v) (hfit : fits ty (.int v) = true) (hA : A (a + k)) (hdg : decode cc pc = .ok (.putfield index, 3))
    (kk : ∀ (γ1 : Mem) (H1 : Heap) (locs1 : List Loc), γ1 = up γ k f v → rg G L a γ1 H1 → va_S A H0 H1 locs1 → (∀ q, q ≠ a + k → H1[q]? = H[q]?) → W p l e R s m args below meth c H1 locs1 cells slots Q (F0 m (pc + 3) ls rest)) : W p l e R s m args below meth c H locs cells slots Q (F0 m pc ls (.int v :: .ref (a + k) :: rest)) := by
  obtain ⟨hx, hb, hml, hown, hts, -⟩ := C
  obtain ⟨C0, T, N, hc, hin, hfN, hlink, hsame⟩ := hF
  obtain ⟨C1, T1, N1, ty0, hc1, hty, hnm, -, hfin, hd⟩ := hFP
  cases hc.symm.trans hc1
  have hap := va_apart (own := own) hts hin ty0 hty hnm hK.1 hc
  obtain ⟨r, h1, cell, q1, q2, q3, q4⟩ := hG k _ hk
  cases h1.symm.trans hc
  obtain ⟨hSl, hfc, kC, hkC, hkind⟩ := hK.1.1 ci _ hc
  obtain ⟨cf, kf, fi, fd, hi, hsl⟩ := hSl f hfN
  have hlay := hts _ (hin _ (u_in_lay hfN))
  unfold u_lay at hlay
  rw [if_neg (by rw [hfin]; decide)] at hlay
  have hst := (u_facts hfc hkC (u_lays hts hin hfN) hi).1
  have h6 := u_store hfc hkC hkind hlay hi hd hn hfit
  have hi' := hi
  rw [hsame] at hi'
  refine W.putK hx hb (f := fd) ⟨hown, hts _ hlink, ⟨_, _, _, hi'⟩, hst⟩ (by rw [q2]; exact h6) q1 q3 (by rw [hsl]; exact k2_hasslot (q4 f hfN)) rfl rfl hdg fun H' e1 e2 e3 => ?_
  rw [hsl] at e1 ⊢
  have hl : f < (rfs a (γ k) 0 fs).length := by rw [rfs_len]; exact (List.getElem?_eq_some_iff.mp hf).1
  exact kk _ H' _ rfl (hG.put hk hf ⟨_, hc, t_OB.to (V := updV (vp_V (rfs a (γ k) 0 fs)) f (.int v)) ⟨_, e1, q2, q3, t_set q4 hap hfN (.int v)⟩ (fun j _ => vp_updV_set hl (.int v) j)⟩ e3) (hS.put e2 e3 hA) e3
theorem g_ald (C : CX p m meth c s args cc own nL) (hK : KK G s) (hG : rg G L a γ H) {k n : Nat} {i : Int32} (hk : L[k]? = some (.inl n)) (hin : vp_in i n) (hdg : decode cc pc = .ok (.iaload, 1))
    (kk : W p l e R s m args below meth c H locs cells slots Q (F0 m (pc + 1) ls (.int (γ k i.toNatClampNeg) :: rest))) : W p l e R s m args below meth c H locs cells slots Q (F0 m pc ls (.int i :: .ref (a + k) :: rest)) := by
  obtain ⟨hx, hb, hml, hown, hts, -⟩ := C
  exact va_iald hx hb hK.1 (hG.one hk) 0 0 rfl rfl hin hdg kk
theorem g_len (C : CX p m meth c s args cc own nL) (hK : KK G s) (hG : rg G L a γ H) {k n : Nat} {v : Int32} (hk : L[k]? = some (.inl n)) (hv : Int32.ofNat n = v) (hdg : decode cc pc = .ok (.arraylength, 1))
    (kk : W p l e R s m args below meth c H locs cells slots Q (F0 m (pc + 1) ls (.int v :: rest))) : W p l e R s m args below meth c H locs cells slots Q (F0 m pc ls (.ref (a + k) :: rest)) := by
  obtain ⟨hx, hb, hml, hown, hts, -⟩ := C
  exact va_alen hx hb hK.1 (hG.one hk) 0 0 (x := (n, .inl (γ k))) rfl (ty := .int) rfl hv hdg kk
theorem rg.ast {k n i : Nat} {v : Int32} {H1 : Heap} (hG : rg G L a γ H) (hk : L[k]? = some (.inl n)) (he : H1[a + k]? = some (vp_cell G.2.1 (n, .inl (upd (γ k) i v)))) (oq : ∀ q, q ≠ a + k → H1[q]? = H[q]?) : rg G L a (up γ k i v) H1 := by
  intro j kd hj
  by_cases hjk : j = k
  · subst hjk
    rw [hk] at hj
    cases hj
    rw [up_s]
    exact he
  · rw [up_n γ i v hjk]
    exact (hG j kd hj).kept (oq _ (fun q => hjk (Nat.add_left_cancel q)))
theorem g_ast (C : CX p m meth c s args cc own nL) (hK : KK G s) (hG : rg G L a γ H) (hS : va_S A H0 H locs) {k n : Nat} {i v : Int32} (hk : L[k]? = some (.inl n)) (hin : vp_in i n) (hA : A (a + k)) (hdg : decode cc pc = .ok (.iastore, 1))
    (kk : ∀ (γ1 : Mem) (H1 : Heap) (locs1 : List Loc), γ1 = up γ k i.toNatClampNeg v → rg G L a γ1 H1 → va_S A H0 H1 locs1 → (∀ q, q ≠ a + k → H1[q]? = H[q]?) → W p l e R s m args below meth c H1 locs1 cells slots Q (F0 m (pc + 1) ls rest)) : W p l e R s m args below meth c H locs cells slots Q (F0 m pc ls (.int v :: .int i :: .ref (a + k) :: rest)) := by
  obtain ⟨hx, hb, hml, hown, hts, -⟩ := C
  have hc : H[a + k]? = some (vp_cell G.2.1 (n, .inl (γ k))) := hG k _ hk
  refine W.iast hx hb hc ((hK.1.2 0 _ rfl).1 n (fun j => .int (γ k j))) (fun q => by cases q) (by show ¬ (i < 0 ∨ (arrV _ _ _).slots.size ≤ _); rw [arrV_size]; exact hin) rfl rfl hdg fun H1 e z oq => ?_
  refine kk _ H1 _ rfl (hG.ast hk ?_ oq) (hS.put z oq hA) oq
  rw [e, vp_cell_i, vp_cell_i, arrV_store]
  congr 2
  funext q
  by_cases hq : q = i.toNatClampNeg
  · subst hq
    simp [updV, upd]
  · simp [updV, upd, hq]
theorem g_recv {k ci : Nat} {fs : List (Option Nat)} {C' : String} {T : u_T} {N : Nat} (hK : KK G s) (hG : rg G L a γ H) (hk : L[k]? = some (.inr (ci, fs))) (hc : vwCl[ci]? = some (C', T, N)) : ∃ cell : Cell, H[a + k]? = some cell ∧ cell.vm.isStatics = false ∧ s.vm.findClass C' = some cell.cls :=
  va_recv (ws := [(a + k, rcell G a (γ k) (.inr (ci, fs)))]) (q := (C', T, N)) hK.1 (hG.one hk) hc (q0 := 0) rfl
/-! calls -/
theorem g_cw {y : MethodName} {bytes : ByteArray} {maxL n index : Nat} {ret : Option FieldType} {rm : Room} (C : CX p m meth c s args cc own nL) (hw : MW y bytes maxL ret n) (hl : (Cond.methodLink own index y) ∈ BIG) (hrm : rm.cells = 0 ∧ rm.slots = 0 ∧ rm.frames + 1 ≤ R.frames ∧ 8 + (maxL + 11) + rm.locals ≤ R.locals) : CallB R s args own index y bytes maxL ret (Cond.code y bytes maxL ret :: BIG) rm 0 0 n := by
  obtain ⟨hx, hb, hml, hown, hts, -⟩ := C
  obtain ⟨h1, h2, h3⟩ := hw
  exact callB_of n hts (big_good (fun w hw => by rcases List.mem_cons.mp hw with rfl | h; exact h1; exact h)) rfl hrm.1 hrm.2.1 (hts _ h2) (hts _ hl) h3 hrm.2.2
theorem g_cn {y : MethodName} {bytes : ByteArray} {maxL n index : Nat} {ret : Option FieldType} {rm : Room} {host : String} (C : CX p m meth c s args cc own nL) (hK : KK G s) (hw : MW y bytes maxL ret n) (hl : (own, index, y, host) ∈ nwl) (hrm : rm.cells = 0 ∧ rm.slots = 0 ∧ rm.frames + 1 ≤ R.frames ∧ 8 + (maxL + 11) + rm.locals ≤ R.locals) : va_CN R s args own index y host bytes maxL ret (Cond.code y bytes maxL ret :: BIG) rm 0 0 n := by
  obtain ⟨hx, hb, hml, hown, hts, -⟩ := C
  obtain ⟨h1, h2, h3⟩ := hw
  exact va_cnB n hts (big_good (fun w hw => by rcases List.mem_cons.mp hw with rfl | h; exact h1; exact h)) rfl hrm.1 hrm.2.1 (hK.2 _ hl) (hts _ h2) h3 hrm.2.2
theorem g_blind {G : GG} {P : Heap → Prop} {av : List Value} : FrameBlind (va_Pc av (fun U => P U.heap ∧ KK G U)) := fun a U g mk q => ⟨q.1, q.2.1, q.2.2.calling⟩
theorem g_pre {P : Heap → Prop} {av : List Value} (hK : KK G s) (hP : P H) : ∀ U : State, U.heap = H → s.WarmedH U.vm → va_Pc av (fun U => P U.heap ∧ KK G U) av.toArray U := fun U hU hW => ⟨rfl, by rw [hU]; exact hP, hK.warm hW⟩
section CALLS
variable {y : MethodName} {bytes : ByteArray} {maxL n index : Nat} {ret : Option FieldType} {rm : Room} {S : Type} {P : Heap → Prop} {P' : S → Heap → Prop} {A1 : Nat → Prop} {b : Addr} {As : List Value} {stk : List Value}
/-- invokevirtual of a method that answers an int -/
theorem g_vI {post : Int32 → S → Prop} (C : CX p m meth c s args cc own nL) (hK : KK G s) (hls : ls.size = nL) (hM : CtI l y bytes maxL ret rm (.ref b :: As) G P post P' A1) (hw : MW y bytes maxL ret n) (hi : MI y) (hl : (Cond.methodLink own index y) ∈ BIG) (hn : As.length = n) (hrm : rm.cells = 0 ∧ rm.slots = 0 ∧ rm.frames + 1 ≤ R.frames ∧ 8 + (maxL + 11) + rm.locals ≤ R.locals) (hcs : cells ≤ R.cells ∧ slots ≤ R.slots) (hrecv : ∃ cell : Cell, H[b]? = some cell ∧ cell.vm.isStatics = false ∧ s.vm.findClass y.cls = some cell.cls) (hP : P H) (hS : va_S A H0 H locs) (hA : ∀ q, A1 q → A q) (hst : stk = As.reverse ++ .ref b :: rest) (hrest : (rest.map fun v => v.category).sum ≤ 8) (hdg : decode cc pc = .ok (.invokevirtual index, 3))
    (kk : ∀ (r : Int32) (u : S) (H1 : Heap) (locs1 : List Loc), post r u → P' u H1 → H.size ≤ H1.size → (∀ q, q < H.size → ¬ A1 q → H1[q]? = H[q]?) → va_S A H0 H1 locs1 → W p l e R s m args below meth c H1 locs1 cells slots Q (F0 m (pc + 3) ls (.int r :: rest))) : W p l e R s m args below meth c H locs cells slots Q (F0 m pc ls stk) := by
  have C' := C
  obtain ⟨hx, hb, hml, hown, hts, -⟩ := C
  exact va_calli (va_runV (nL := nL) (Ts := BIG) (C := y.cls) (As := As) (rest := rest) ⟨hx, hb, hml, hown, hts⟩ hM ⟨g_cw C' hw hl hrm, hts _ hi.1, hts _ hi.2⟩ ⟨g_blind, hrecv, g_pre hK hP⟩ rfl hn hls hst (lv_room hrest) hdg hcs) hS (fun q _ h => hA q h) hA (fun r u t H1 locs1 ht hvm hq hB hz hk hS => kk r u H1 locs1 hq (by rw [← ht]; exact hB.1) hz hk hS)
theorem g_vV {post : S → Prop} (C : CX p m meth c s args cc own nL) (hK : KK G s) (hls : ls.size = nL) (hM : CtV l y bytes maxL rm (.ref b :: As) G P post P' A1) (hw : MW y bytes maxL none n) (hi : MI y) (hl : (Cond.methodLink own index y) ∈ BIG) (hn : As.length = n) (hrm : rm.cells = 0 ∧ rm.slots = 0 ∧ rm.frames + 1 ≤ R.frames ∧ 8 + (maxL + 11) + rm.locals ≤ R.locals) (hcs : cells ≤ R.cells ∧ slots ≤ R.slots) (hrecv : ∃ cell : Cell, H[b]? = some cell ∧ cell.vm.isStatics = false ∧ s.vm.findClass y.cls = some cell.cls) (hP : P H) (hS : va_S A H0 H locs) (hA : ∀ q, A1 q → A q) (hst : stk = As.reverse ++ .ref b :: rest) (hrest : (rest.map fun v => v.category).sum ≤ 8) (hdg : decode cc pc = .ok (.invokevirtual index, 3))
    (kk : ∀ (u : S) (H1 : Heap) (locs1 : List Loc), post u → P' u H1 → H.size ≤ H1.size → (∀ q, q < H.size → ¬ A1 q → H1[q]? = H[q]?) → va_S A H0 H1 locs1 → W p l e R s m args below meth c H1 locs1 cells slots Q (F0 m (pc + 3) ls rest)) : W p l e R s m args below meth c H locs cells slots Q (F0 m pc ls stk) := by
  have C' := C
  obtain ⟨hx, hb, hml, hown, hts, -⟩ := C
  exact va_callv (va_runV (nL := nL) (Ts := BIG) (C := y.cls) (As := As) (rest := rest) ⟨hx, hb, hml, hown, hts⟩ hM ⟨g_cw C' hw hl hrm, hts _ hi.1, hts _ hi.2⟩ ⟨g_blind, hrecv, g_pre hK hP⟩ rfl hn hls hst (lv_room hrest) hdg hcs) hS (fun q _ h => hA q h) hA (fun u t H1 locs1 ht hvm hq hB hz hk hS => kk u H1 locs1 hq (by rw [← ht]; exact hB.1) hz hk hS)
theorem g_sI {post : Int32 → S → Prop} (C : CX p m meth c s args cc own nL) (hK : KK G s) (hls : ls.size = nL) (hM : CtI l y bytes maxL ret rm As G P post P' A1) (hw : MW y bytes maxL ret n) (hi : Cond.static y ∈ BIG) (hl : (Cond.methodLink own index y) ∈ BIG) (hn : As.length = n) (hrm : rm.cells = 0 ∧ rm.slots = 0 ∧ rm.frames + 1 ≤ R.frames ∧ 8 + (maxL + 11) + rm.locals ≤ R.locals) (hcs : cells ≤ R.cells ∧ slots ≤ R.slots) (hP : P H) (hS : va_S A H0 H locs) (hA : ∀ q, A1 q → A q) (hst : stk = As.reverse ++ rest) (hrest : (rest.map fun v => v.category).sum ≤ 8) (hdg : decode cc pc = .ok (.invokestatic index, 3))
    (kk : ∀ (r : Int32) (u : S) (H1 : Heap) (locs1 : List Loc), post r u → P' u H1 → H.size ≤ H1.size → (∀ q, q < H.size → ¬ A1 q → H1[q]? = H[q]?) → va_S A H0 H1 locs1 → W p l e R s m args below meth c H1 locs1 cells slots Q (F0 m (pc + 3) ls (.int r :: rest))) : W p l e R s m args below meth c H locs cells slots Q (F0 m pc ls stk) := by
  have C' := C
  obtain ⟨hx, hb, hml, hown, hts, -⟩ := C
  exact va_calli (va_runS (nL := nL) (Ts := BIG) (As := As) (rest := rest) ⟨hx, hb, hml, hown, hts⟩ hM ⟨g_cw C' hw hl hrm, hts _ hi⟩ ⟨g_blind, g_pre hK hP⟩ rfl hn hls hst (lv_room hrest) hdg hcs) hS (fun q _ h => hA q h) hA (fun r u t H1 locs1 ht hvm hq hB hz hk hS => kk r u H1 locs1 hq (by rw [← ht]; exact hB.1) hz hk hS)
theorem g_sV {post : S → Prop} (C : CX p m meth c s args cc own nL) (hK : KK G s) (hls : ls.size = nL) (hM : CtV l y bytes maxL rm As G P post P' A1) (hw : MW y bytes maxL none n) (hi : Cond.static y ∈ BIG) (hl : (Cond.methodLink own index y) ∈ BIG) (hn : As.length = n) (hrm : rm.cells = 0 ∧ rm.slots = 0 ∧ rm.frames + 1 ≤ R.frames ∧ 8 + (maxL + 11) + rm.locals ≤ R.locals) (hcs : cells ≤ R.cells ∧ slots ≤ R.slots) (hP : P H) (hS : va_S A H0 H locs) (hA : ∀ q, A1 q → A q) (hst : stk = As.reverse ++ rest) (hrest : (rest.map fun v => v.category).sum ≤ 8) (hdg : decode cc pc = .ok (.invokestatic index, 3))
    (kk : ∀ (u : S) (H1 : Heap) (locs1 : List Loc), post u → P' u H1 → H.size ≤ H1.size → (∀ q, q < H.size → ¬ A1 q → H1[q]? = H[q]?) → va_S A H0 H1 locs1 → W p l e R s m args below meth c H1 locs1 cells slots Q (F0 m (pc + 3) ls rest)) : W p l e R s m args below meth c H locs cells slots Q (F0 m pc ls stk) := by
  have C' := C
  obtain ⟨hx, hb, hml, hown, hts, -⟩ := C
  exact va_callv (va_runS (nL := nL) (Ts := BIG) (As := As) (rest := rest) ⟨hx, hb, hml, hown, hts⟩ hM ⟨g_cw C' hw hl hrm, hts _ hi⟩ ⟨g_blind, g_pre hK hP⟩ rfl hn hls hst (lv_room hrest) hdg hcs) hS (fun q _ h => hA q h) hA (fun u t H1 locs1 ht hvm hq hB hz hk hS => kk u H1 locs1 hq (by rw [← ht]; exact hB.1) hz hk hS)
theorem g_nI {post : Int32 → S → Prop} {host : String} (C : CX p m meth c s args cc own nL) (hK : KK G s) (hls : ls.size = nL) (hM : CtI l y bytes maxL ret rm As G P post P' A1) (hw : MW y bytes maxL ret n) (hi : Cond.static y ∈ BIG) (hl : (own, index, y, host) ∈ nwl) (hn : As.length = n) (hrm : rm.cells = 0 ∧ rm.slots = 0 ∧ rm.frames + 1 ≤ R.frames ∧ 8 + (maxL + 11) + rm.locals ≤ R.locals) (hcs : cells ≤ R.cells ∧ slots ≤ R.slots) (hP : P H) (hS : va_S A H0 H locs) (hA : ∀ q, A1 q → A q) (hst : stk = As.reverse ++ rest) (hrest : (rest.map fun v => v.category).sum ≤ 8) (hdg : decode cc pc = .ok (.invokestatic index, 3))
    (kk : ∀ (r : Int32) (u : S) (H1 : Heap) (locs1 : List Loc), post r u → P' u H1 → H.size ≤ H1.size → (∀ q, q < H.size → ¬ A1 q → H1[q]? = H[q]?) → va_S A H0 H1 locs1 → W p l e R s m args below meth c H1 locs1 cells slots Q (F0 m (pc + 3) ls (.int r :: rest))) : W p l e R s m args below meth c H locs cells slots Q (F0 m pc ls stk) := by
  have C' := C
  obtain ⟨hx, hb, hml, hown, hts, -⟩ := C
  exact va_calli (va_runSN (nL := nL) (Ts := BIG) (As := As) (rest := rest) ⟨hx, hb, hml, hown, hts⟩ hM ⟨g_cn C' hK hw hl hrm, hts _ hi, trivial⟩ ⟨g_blind, g_pre hK hP⟩ rfl hn hls hst (lv_room hrest) hdg hcs) hS (fun q _ h => hA q h) hA (fun r u t H1 locs1 ht hvm hq hB hz hk hS => kk r u H1 locs1 hq (by rw [← ht]; exact hB.1) hz hk hS)
theorem g_nV {post : S → Prop} {host : String} (C : CX p m meth c s args cc own nL) (hK : KK G s) (hls : ls.size = nL) (hM : CtV l y bytes maxL rm As G P post P' A1) (hw : MW y bytes maxL none n) (hi : Cond.static y ∈ BIG) (hl : (own, index, y, host) ∈ nwl) (hn : As.length = n) (hrm : rm.cells = 0 ∧ rm.slots = 0 ∧ rm.frames + 1 ≤ R.frames ∧ 8 + (maxL + 11) + rm.locals ≤ R.locals) (hcs : cells ≤ R.cells ∧ slots ≤ R.slots) (hP : P H) (hS : va_S A H0 H locs) (hA : ∀ q, A1 q → A q) (hst : stk = As.reverse ++ rest) (hrest : (rest.map fun v => v.category).sum ≤ 8) (hdg : decode cc pc = .ok (.invokestatic index, 3))
    (kk : ∀ (u : S) (H1 : Heap) (locs1 : List Loc), post u → P' u H1 → H.size ≤ H1.size → (∀ q, q < H.size → ¬ A1 q → H1[q]? = H[q]?) → va_S A H0 H1 locs1 → W p l e R s m args below meth c H1 locs1 cells slots Q (F0 m (pc + 3) ls rest)) : W p l e R s m args below meth c H locs cells slots Q (F0 m pc ls stk) := by
  have C' := C
  obtain ⟨hx, hb, hml, hown, hts, -⟩ := C
  exact va_callv (va_runSN (nL := nL) (Ts := BIG) (As := As) (rest := rest) ⟨hx, hb, hml, hown, hts⟩ hM ⟨g_cn C' hK hw hl hrm, hts _ hi, trivial⟩ ⟨g_blind, g_pre hK hP⟩ rfl hn hls hst (lv_room hrest) hdg hcs) hS (fun q _ h => hA q h) hA (fun u t H1 locs1 ht hvm hq hB hz hk hS => kk u H1 locs1 hq (by rw [← ht]; exact hB.1) hz hk hS)
end CALLS
/-! ends -/
theorem g_iret {S : Type} {post : Int32 → S → Prop} {P' : S → Heap → Prop} {r : Int32} {u : S} (C : CX p m meth c s args cc own nL) (hr : meth.sig.returnType = some .int) (hK : KK G s) (hS : va_S A s.heap H locs) (hq : post r u) (hP : P' u H) (hdg : decode cc pc = .ok (.ireturn, 1)) : W p l e R s m args below meth c H locs cells slots (MQ below (va_Qi post (fun u t => P' u t.heap ∧ KK G t) A) args s cells slots A) (F0 m pc ls [.int r]) := by
  obtain ⟨hx, hb, hml, hown, hts, hlocks⟩ := C
  exact W.iret hx hb hr (fun t ht hW => ⟨⟨r, u, rfl, hq, by rw [ht]; exact hP, hK.warm hW⟩, hS.F ht⟩) hS.2.2 hdg hlocks
theorem g_zret {S : Type} {post : Int32 → S → Prop} {P' : S → Heap → Prop} {r : Int32} {u : S} (C : CX p m meth c s args cc own nL) (hr : meth.sig.returnType = some .boolean) (hK : KK G s) (hS : va_S A s.heap H locs) (hn : narrow .boolean (.int r) = .int r) (hq : post r u) (hP : P' u H) (hdg : decode cc pc = .ok (.ireturn, 1)) : W p l e R s m args below meth c H locs cells slots (MQ below (va_Qi post (fun u t => P' u t.heap ∧ KK G t) A) args s cells slots A) (F0 m pc ls [.int r]) := by
  obtain ⟨hx, hb, hml, hown, hts, hlocks⟩ := C
  exact W.zret hx hb hr hn (fun t ht hW => ⟨⟨r, u, rfl, hq, by rw [ht]; exact hP, hK.warm hW⟩, hS.F ht⟩) hS.2.2 hdg hlocks
theorem g_vret {S : Type} {post : S → Prop} {P' : S → Heap → Prop} {u : S} (C : CX p m meth c s args cc own nL) (hr : meth.sig.returnType = none) (hK : KK G s) (hS : va_S A s.heap H locs) (hq : post u) (hP : P' u H) (hdg : decode cc pc = .ok (.return_, 1)) : W p l e R s m args below meth c H locs cells slots (MQ below (va_Qv post (fun u t => P' u t.heap ∧ KK G t) A) args s cells slots A) (F0 m pc ls []) := by
  obtain ⟨hx, hb, hml, hown, hts, hlocks⟩ := C
  exact W.vret hx hb hr (fun t ht hW => ⟨⟨u, rfl, hq, by rw [ht]; exact hP, hK.warm hW⟩, hS.F ht⟩) hS.2.2 hdg hlocks
theorem g_ldc (C : CX p m meth c s args cc own nL) {index : Nat} {v : Int32} (hw : Cond.constant own index v ∈ BIG) (hdg : decode cc pc = .ok (.ldc index, 2)) (k : W p l e R s m args below meth c H locs cells slots Q (F0 m (pc + 2) ls (.int v :: rest))) : W p l e R s m args below meth c H locs cells slots Q (F0 m pc ls rest) := by
  obtain ⟨hx, hb, hml, hown, hts, -⟩ := C
  exact lv_ldc hx hb hown (hts _ hw) hdg k
theorem g_ldcw (C : CX p m meth c s args cc own nL) {index : Nat} {v : Int32} (hw : Cond.constant own index v ∈ BIG) (hdg : decode cc pc = .ok (.ldc_w index, 3)) (k : W p l e R s m args below meth c H locs cells slots Q (F0 m (pc + 3) ls (.int v :: rest))) : W p l e R s m args below meth c H locs cells slots Q (F0 m pc ls rest) := by
  obtain ⟨hx, hb, hml, hown, hts, -⟩ := C
  exact lv_ldcw hx hb hown (hts _ hw) hdg k
end RG
theorem vp_dec {i : Int32} {n : Nat} (h : ¬ (i < 0 ∨ n ≤ i.toNatClampNeg)) : vp_in i n := h
end
section
def LG : List KD := [.inr (1, [none, some 1, some 4, some 12, some 18, some 21, none]), .inr (5, [none, none, some 2, some 3]), .inl 12, .inl 4, .inr (2, [none, some 5, some 6, some 7, some 8, some 9, some 10, some 11]), .inl 12, .inl 12, .inl 12, .inl 12, .inl 12, .inl 12, .inl 12, .inr (6, [none, some 13, some 14, some 15, some 16, some 17]), .inl 8, .inl 8, .inl 8, .inl 8, .inl 8, .inr (0, [none, some 19, some 20]), .inl 6, .inl 6, .inl 12]
def LO : List KD := [.inr (4, [none, none, none, none, none, none, some 1, some 2]), .inl 60, .inl 4]
def LM : List KD := [.inr (8, [some 1, some 2, some 3, some 4, none, none, some 5, none, some 6, none, none, none, none, none, none, none, some 7]), .inl 164, .inl 656, .inl 164, .inl 164, .inl 60, .inl 12, .inl 4]
def LX : List KD := [.inr (7, [some 1, some 23, some 45, some 135])]
def LH : List KD := [.inr (3, [none, some 1])]
set_option maxRecDepth 20000 in
theorem inB0 : ∀ w ∈ u_ws RX0 TX0 3, w ∈ BIG := fun w hw => big_of (List.mem_append_right _ (List.elem_iff.mp (List.all_eq_true.mp (show (u_ws RX0 TX0 3).all (fun w => tables_1.elem w) = true by decide +kernel) w hw))) (List.all_eq_true.mp (show (u_ws RX0 TX0 3).all goodWord = true by decide +kernel) w hw)
theorem fp_X0_0 : FP 0 0 .int := ⟨RX0, TX0, 3, tyX0, rfl, tyX0_ok, nmX0, by decide, rfl, by decide +kernel⟩
set_option maxRecDepth 20000 in
theorem inB1 : ∀ w ∈ u_ws RX1 TX1 7, w ∈ BIG := fun w hw => big_of (List.mem_append_right _ (List.elem_iff.mp (List.all_eq_true.mp (show (u_ws RX1 TX1 7).all (fun w => tables_1.elem w) = true by decide +kernel) w hw))) (List.all_eq_true.mp (show (u_ws RX1 TX1 7).all goodWord = true by decide +kernel) w hw)
theorem fp_X1_0 : FP 1 0 .int := ⟨RX1, TX1, 7, tyX1, rfl, tyX1_ok, nmX1, by decide, rfl, by decide +kernel⟩
theorem fp_X1_6 : FP 1 6 .int := ⟨RX1, TX1, 7, tyX1, rfl, tyX1_ok, nmX1, by decide, rfl, by decide +kernel⟩
set_option maxRecDepth 20000 in
theorem inB2 : ∀ w ∈ u_ws RX2 TX2 8, w ∈ BIG := fun w hw => big_of (List.mem_append_right _ (List.elem_iff.mp (List.all_eq_true.mp (show (u_ws RX2 TX2 8).all (fun w => tables_1.elem w) = true by decide +kernel) w hw))) (List.all_eq_true.mp (show (u_ws RX2 TX2 8).all goodWord = true by decide +kernel) w hw)
theorem fp_X2_0 : FP 2 0 .int := ⟨RX2, TX2, 8, tyX2, rfl, tyX2_ok, nmX2, by decide, rfl, by decide +kernel⟩
set_option maxRecDepth 20000 in
theorem inB3 : ∀ w ∈ u_ws RX3 TX3 2, w ∈ BIG := fun w hw => big_of (List.mem_append_right _ (List.elem_iff.mp (List.all_eq_true.mp (show (u_ws RX3 TX3 2).all (fun w => tables_1.elem w) = true by decide +kernel) w hw))) (List.all_eq_true.mp (show (u_ws RX3 TX3 2).all goodWord = true by decide +kernel) w hw)
theorem fp_X3_0 : FP 3 0 .int := ⟨RX3, TX3, 2, tyX3, rfl, tyX3_ok, nmX3, by decide, rfl, by decide +kernel⟩
set_option maxRecDepth 20000 in
theorem inB4 : ∀ w ∈ u_ws RX4 TX4 8, w ∈ BIG := fun w hw => big_of (List.mem_append_right _ (List.elem_iff.mp (List.all_eq_true.mp (show (u_ws RX4 TX4 8).all (fun w => tables_1.elem w) = true by decide +kernel) w hw))) (List.all_eq_true.mp (show (u_ws RX4 TX4 8).all goodWord = true by decide +kernel) w hw)
theorem fp_X4_0 : FP 4 0 .int := ⟨RX4, TX4, 8, tyX4, rfl, tyX4_ok, nmX4, by decide, rfl, by decide +kernel⟩
theorem fp_X4_1 : FP 4 1 .int := ⟨RX4, TX4, 8, tyX4, rfl, tyX4_ok, nmX4, by decide, rfl, by decide +kernel⟩
theorem fp_X4_2 : FP 4 2 .int := ⟨RX4, TX4, 8, tyX4, rfl, tyX4_ok, nmX4, by decide, rfl, by decide +kernel⟩
theorem fp_X4_3 : FP 4 3 .int := ⟨RX4, TX4, 8, tyX4, rfl, tyX4_ok, nmX4, by decide, rfl, by decide +kernel⟩
theorem fp_X4_4 : FP 4 4 .int := ⟨RX4, TX4, 8, tyX4, rfl, tyX4_ok, nmX4, by decide, rfl, by decide +kernel⟩
theorem fp_X4_5 : FP 4 5 .int := ⟨RX4, TX4, 8, tyX4, rfl, tyX4_ok, nmX4, by decide, rfl, by decide +kernel⟩
set_option maxRecDepth 20000 in
theorem inB5 : ∀ w ∈ u_ws RX5 TX5 4, w ∈ BIG := fun w hw => big_of (List.mem_append_right _ (List.elem_iff.mp (List.all_eq_true.mp (show (u_ws RX5 TX5 4).all (fun w => tables_1.elem w) = true by decide +kernel) w hw))) (List.all_eq_true.mp (show (u_ws RX5 TX5 4).all goodWord = true by decide +kernel) w hw)
theorem fp_X5_0 : FP 5 0 .int := ⟨RX5, TX5, 4, tyX5, rfl, tyX5_ok, nmX5, by decide, rfl, by decide +kernel⟩
theorem fp_X5_1 : FP 5 1 .int := ⟨RX5, TX5, 4, tyX5, rfl, tyX5_ok, nmX5, by decide, rfl, by decide +kernel⟩
set_option maxRecDepth 20000 in
theorem inB6 : ∀ w ∈ u_ws RX6 TX6 6, w ∈ BIG := fun w hw => big_of (List.mem_append_right _ (List.elem_iff.mp (List.all_eq_true.mp (show (u_ws RX6 TX6 6).all (fun w => tables_1.elem w) = true by decide +kernel) w hw))) (List.all_eq_true.mp (show (u_ws RX6 TX6 6).all goodWord = true by decide +kernel) w hw)
theorem fp_X6_0 : FP 6 0 .int := ⟨RX6, TX6, 6, tyX6, rfl, tyX6_ok, nmX6, by decide, rfl, by decide +kernel⟩
set_option maxRecDepth 20000 in
theorem inB7 : ∀ w ∈ u_ws RX7 TX7 4, w ∈ BIG := fun w hw => big_of (List.mem_append_right _ (List.elem_iff.mp (List.all_eq_true.mp (show (u_ws RX7 TX7 4).all (fun w => tables_1.elem w) = true by decide +kernel) w hw))) (List.all_eq_true.mp (show (u_ws RX7 TX7 4).all goodWord = true by decide +kernel) w hw)
set_option maxRecDepth 20000 in
theorem inB8 : ∀ w ∈ u_ws RX8 TX8 17, w ∈ BIG := fun w hw => big_of (List.mem_append_right _ (List.elem_iff.mp (List.all_eq_true.mp (show (u_ws RX8 TX8 17).all (fun w => tables_1.elem w) = true by decide +kernel) w hw))) (List.all_eq_true.mp (show (u_ws RX8 TX8 17).all goodWord = true by decide +kernel) w hw)
theorem fp_X8_4 : FP 8 4 .int := ⟨RX8, TX8, 17, tyX8, rfl, tyX8_ok, nmX8, by decide, rfl, by decide +kernel⟩
theorem fp_X8_5 : FP 8 5 .boolean := ⟨RX8, TX8, 17, tyX8, rfl, tyX8_ok, nmX8, by decide, rfl, by decide +kernel⟩
theorem fp_X8_7 : FP 8 7 .int := ⟨RX8, TX8, 17, tyX8, rfl, tyX8_ok, nmX8, by decide, rfl, by decide +kernel⟩
theorem fp_X8_9 : FP 8 9 .int := ⟨RX8, TX8, 17, tyX8, rfl, tyX8_ok, nmX8, by decide, rfl, by decide +kernel⟩
theorem fp_X8_10 : FP 8 10 .int := ⟨RX8, TX8, 17, tyX8, rfl, tyX8_ok, nmX8, by decide, rfl, by decide +kernel⟩
theorem fp_X8_11 : FP 8 11 .int := ⟨RX8, TX8, 17, tyX8, rfl, tyX8_ok, nmX8, by decide, rfl, by decide +kernel⟩
theorem fp_X8_12 : FP 8 12 .int := ⟨RX8, TX8, 17, tyX8, rfl, tyX8_ok, nmX8, by decide, rfl, by decide +kernel⟩
theorem fp_X8_13 : FP 8 13 .int := ⟨RX8, TX8, 17, tyX8, rfl, tyX8_ok, nmX8, by decide, rfl, by decide +kernel⟩
theorem fp_X8_14 : FP 8 14 .int := ⟨RX8, TX8, 17, tyX8, rfl, tyX8_ok, nmX8, by decide, rfl, by decide +kernel⟩
theorem fp_X8_15 : FP 8 15 .int := ⟨RX8, TX8, 17, tyX8, rfl, tyX8_ok, nmX8, by decide, rfl, by decide +kernel⟩
theorem fl_X7_12 : FL RX7 12 7 0 := ⟨RX7, TX7, 4, rfl, inB7, by decide, big_1 (i := 233) (by rfl) rfl, rfl⟩
theorem fl_X7_16 : FL RX7 16 7 1 := ⟨RX7, TX7, 4, rfl, inB7, by decide, big_1 (i := 234) (by rfl) rfl, rfl⟩
theorem fl_X7_22 : FL RX7 22 7 2 := ⟨RX7, TX7, 4, rfl, inB7, by decide, big_1 (i := 235) (by rfl) rfl, rfl⟩
theorem fl_X7_29 : FL RX7 29 7 3 := ⟨RX7, TX7, 4, rfl, inB7, by decide, big_1 (i := 236) (by rfl) rfl, rfl⟩
theorem fl_X7_80 : FL RX7 80 1 1 := ⟨RX1, TX1, 7, rfl, inB1, by decide, big_1 (i := 156) (by rfl) rfl, rfl⟩
theorem fl_X7_84 : FL RX7 84 5 3 := ⟨RX5, TX5, 4, rfl, inB5, by decide, big_1 (i := 40) (by rfl) rfl, rfl⟩
theorem fl_X7_90 : FL RX7 90 1 2 := ⟨RX1, TX1, 7, rfl, inB1, by decide, big_1 (i := 158) (by rfl) rfl, rfl⟩
theorem fl_X7_118 : FL RX7 118 2 1 := ⟨RX2, TX2, 8, rfl, inB2, by decide, big_1 (i := 61) (by rfl) rfl, rfl⟩
theorem fl_X7_121 : FL RX7 121 2 2 := ⟨RX2, TX2, 8, rfl, inB2, by decide, big_1 (i := 64) (by rfl) rfl, rfl⟩
theorem fl_X7_125 : FL RX7 125 2 3 := ⟨RX2, TX2, 8, rfl, inB2, by decide, big_1 (i := 66) (by rfl) rfl, rfl⟩
theorem fl_X7_128 : FL RX7 128 2 5 := ⟨RX2, TX2, 8, rfl, inB2, by decide, big_1 (i := 70) (by rfl) rfl, rfl⟩
theorem fl_X7_131 : FL RX7 131 2 6 := ⟨RX2, TX2, 8, rfl, inB2, by decide, big_1 (i := 73) (by rfl) rfl, rfl⟩
theorem fl_X7_134 : FL RX7 134 2 7 := ⟨RX2, TX2, 8, rfl, inB2, by decide, big_1 (i := 76) (by rfl) rfl, rfl⟩
theorem fl_X7_140 : FL RX7 140 1 3 := ⟨RX1, TX1, 7, rfl, inB1, by decide, big_1 (i := 160) (by rfl) rfl, rfl⟩
theorem fl_X7_144 : FL RX7 144 6 1 := ⟨RX6, TX6, 6, rfl, inB6, by decide, big_1 (i := 105) (by rfl) rfl, rfl⟩
theorem fl_X7_149 : FL RX7 149 6 2 := ⟨RX6, TX6, 6, rfl, inB6, by decide, big_1 (i := 108) (by rfl) rfl, rfl⟩
theorem fl_X7_152 : FL RX7 152 6 3 := ⟨RX6, TX6, 6, rfl, inB6, by decide, big_1 (i := 111) (by rfl) rfl, rfl⟩
theorem fl_X7_155 : FL RX7 155 6 4 := ⟨RX6, TX6, 6, rfl, inB6, by decide, big_1 (i := 114) (by rfl) rfl, rfl⟩
theorem fl_X7_161 : FL RX7 161 6 5 := ⟨RX6, TX6, 6, rfl, inB6, by decide, big_1 (i := 116) (by rfl) rfl, rfl⟩
theorem fl_X7_171 : FL RX7 171 1 4 := ⟨RX1, TX1, 7, rfl, inB1, by decide, big_1 (i := 162) (by rfl) rfl, rfl⟩
theorem fl_X7_175 : FL RX7 175 0 1 := ⟨RX0, TX0, 3, rfl, inB0, by decide, big_1 (i := 142) (by rfl) rfl, rfl⟩
theorem fl_X7_180 : FL RX7 180 0 2 := ⟨RX0, TX0, 3, rfl, inB0, by decide, big_1 (i := 145) (by rfl) rfl, rfl⟩
theorem fl_X7_203 : FL RX7 203 1 0 := ⟨RX1, TX1, 7, rfl, inB1, by decide, big_1 (i := 154) (by rfl) rfl, rfl⟩
theorem fl_X7_211 : FL RX7 211 5 0 := ⟨RX5, TX5, 4, rfl, inB5, by decide, big_1 (i := 35) (by rfl) rfl, rfl⟩
theorem fl_X7_214 : FL RX7 214 6 0 := ⟨RX6, TX6, 6, rfl, inB6, by decide, big_1 (i := 102) (by rfl) rfl, rfl⟩
theorem fl_X7_215 : FL RX7 215 0 0 := ⟨RX0, TX0, 3, rfl, inB0, by decide, big_1 (i := 139) (by rfl) rfl, rfl⟩
theorem fl_X7_225 : FL RX7 225 5 1 := ⟨RX5, TX5, 4, rfl, inB5, by decide, big_1 (i := 37) (by rfl) rfl, rfl⟩
theorem fl_X7_228 : FL RX7 228 3 0 := ⟨RX3, TX3, 2, rfl, inB3, by decide, big_1 (i := 190) (by rfl) rfl, rfl⟩
theorem fl_X7_229 : FL RX7 229 4 0 := ⟨RX4, TX4, 8, rfl, inB4, by decide, big_1 (i := 204) (by rfl) rfl, rfl⟩
theorem fl_X7_246 : FL RX7 246 4 2 := ⟨RX4, TX4, 8, rfl, inB4, by decide, big_1 (i := 208) (by rfl) rfl, rfl⟩
theorem fl_X7_249 : FL RX7 249 4 3 := ⟨RX4, TX4, 8, rfl, inB4, by decide, big_1 (i := 210) (by rfl) rfl, rfl⟩
theorem fl_X7_252 : FL RX7 252 4 4 := ⟨RX4, TX4, 8, rfl, inB4, by decide, big_1 (i := 212) (by rfl) rfl, rfl⟩
theorem fl_X7_255 : FL RX7 255 4 1 := ⟨RX4, TX4, 8, rfl, inB4, by decide, big_1 (i := 206) (by rfl) rfl, rfl⟩
theorem fl_X0_9 : FL RX0 9 0 1 := ⟨RX0, TX0, 3, rfl, inB0, by decide, big_1 (i := 140) (by rfl) rfl, rfl⟩
theorem fl_X0_15 : FL RX0 15 0 2 := ⟨RX0, TX0, 3, rfl, inB0, by decide, big_1 (i := 143) (by rfl) rfl, rfl⟩
theorem fl_X0_18 : FL RX0 18 0 0 := ⟨RX0, TX0, 3, rfl, inB0, by decide, big_1 (i := 137) (by rfl) rfl, rfl⟩
theorem fl_X1_12 : FL RX1 12 1 1 := ⟨RX1, TX1, 7, rfl, inB1, by decide, big_1 (i := 155) (by rfl) rfl, rfl⟩
theorem fl_X1_21 : FL RX1 21 1 2 := ⟨RX1, TX1, 7, rfl, inB1, by decide, big_1 (i := 157) (by rfl) rfl, rfl⟩
theorem fl_X1_28 : FL RX1 28 1 3 := ⟨RX1, TX1, 7, rfl, inB1, by decide, big_1 (i := 159) (by rfl) rfl, rfl⟩
theorem fl_X1_35 : FL RX1 35 1 4 := ⟨RX1, TX1, 7, rfl, inB1, by decide, big_1 (i := 161) (by rfl) rfl, rfl⟩
theorem fl_X1_39 : FL RX1 39 1 5 := ⟨RX1, TX1, 7, rfl, inB1, by decide, big_1 (i := 163) (by rfl) rfl, rfl⟩
theorem fl_X1_43 : FL RX1 43 1 0 := ⟨RX1, TX1, 7, rfl, inB1, by decide, big_1 (i := 153) (by rfl) rfl, rfl⟩
theorem fl_X1_60 : FL RX1 60 5 0 := ⟨RX5, TX5, 4, rfl, inB5, by decide, big_1 (i := 34) (by rfl) rfl, rfl⟩
theorem fl_X1_71 : FL RX1 71 6 0 := ⟨RX6, TX6, 6, rfl, inB6, by decide, big_1 (i := 101) (by rfl) rfl, rfl⟩
theorem fl_X1_72 : FL RX1 72 0 0 := ⟨RX0, TX0, 3, rfl, inB0, by decide, big_1 (i := 138) (by rfl) rfl, rfl⟩
theorem fl_X1_87 : FL RX1 87 2 1 := ⟨RX2, TX2, 8, rfl, inB2, by decide, big_1 (i := 60) (by rfl) rfl, rfl⟩
theorem fl_X1_90 : FL RX1 90 6 1 := ⟨RX6, TX6, 6, rfl, inB6, by decide, big_1 (i := 104) (by rfl) rfl, rfl⟩
theorem fl_X1_93 : FL RX1 93 6 2 := ⟨RX6, TX6, 6, rfl, inB6, by decide, big_1 (i := 107) (by rfl) rfl, rfl⟩
theorem fl_X1_96 : FL RX1 96 6 3 := ⟨RX6, TX6, 6, rfl, inB6, by decide, big_1 (i := 110) (by rfl) rfl, rfl⟩
theorem fl_X1_99 : FL RX1 99 6 4 := ⟨RX6, TX6, 6, rfl, inB6, by decide, big_1 (i := 113) (by rfl) rfl, rfl⟩
theorem fl_X1_102 : FL RX1 102 0 1 := ⟨RX0, TX0, 3, rfl, inB0, by decide, big_1 (i := 141) (by rfl) rfl, rfl⟩
theorem fl_X1_105 : FL RX1 105 0 2 := ⟨RX0, TX0, 3, rfl, inB0, by decide, big_1 (i := 144) (by rfl) rfl, rfl⟩
theorem fl_X1_112 : FL RX1 112 2 2 := ⟨RX2, TX2, 8, rfl, inB2, by decide, big_1 (i := 63) (by rfl) rfl, rfl⟩
theorem fl_X1_148 : FL RX1 148 2 3 := ⟨RX2, TX2, 8, rfl, inB2, by decide, big_1 (i := 67) (by rfl) rfl, rfl⟩
theorem fl_X1_154 : FL RX1 154 5 3 := ⟨RX5, TX5, 4, rfl, inB5, by decide, big_1 (i := 41) (by rfl) rfl, rfl⟩
theorem fl_X1_172 : FL RX1 172 2 6 := ⟨RX2, TX2, 8, rfl, inB2, by decide, big_1 (i := 74) (by rfl) rfl, rfl⟩
theorem fl_X1_175 : FL RX1 175 1 6 := ⟨RX1, TX1, 7, rfl, inB1, by decide, big_1 (i := 164) (by rfl) rfl, rfl⟩
theorem fl_X1_178 : FL RX1 178 2 5 := ⟨RX2, TX2, 8, rfl, inB2, by decide, big_1 (i := 71) (by rfl) rfl, rfl⟩
theorem fl_X1_181 : FL RX1 181 6 5 := ⟨RX6, TX6, 6, rfl, inB6, by decide, big_1 (i := 117) (by rfl) rfl, rfl⟩
theorem fl_X2_9 : FL RX2 9 2 1 := ⟨RX2, TX2, 8, rfl, inB2, by decide, big_1 (i := 59) (by rfl) rfl, rfl⟩
theorem fl_X2_15 : FL RX2 15 2 2 := ⟨RX2, TX2, 8, rfl, inB2, by decide, big_1 (i := 62) (by rfl) rfl, rfl⟩
theorem fl_X2_18 : FL RX2 18 2 3 := ⟨RX2, TX2, 8, rfl, inB2, by decide, big_1 (i := 65) (by rfl) rfl, rfl⟩
theorem fl_X2_21 : FL RX2 21 2 4 := ⟨RX2, TX2, 8, rfl, inB2, by decide, big_1 (i := 68) (by rfl) rfl, rfl⟩
theorem fl_X2_24 : FL RX2 24 2 5 := ⟨RX2, TX2, 8, rfl, inB2, by decide, big_1 (i := 69) (by rfl) rfl, rfl⟩
theorem fl_X2_27 : FL RX2 27 2 6 := ⟨RX2, TX2, 8, rfl, inB2, by decide, big_1 (i := 72) (by rfl) rfl, rfl⟩
theorem fl_X2_30 : FL RX2 30 2 7 := ⟨RX2, TX2, 8, rfl, inB2, by decide, big_1 (i := 75) (by rfl) rfl, rfl⟩
theorem fl_X2_33 : FL RX2 33 2 0 := ⟨RX2, TX2, 8, rfl, inB2, by decide, big_1 (i := 58) (by rfl) rfl, rfl⟩
theorem fl_X3_11 : FL RX3 11 3 1 := ⟨RX3, TX3, 2, rfl, inB3, by decide, big_1 (i := 191) (by rfl) rfl, rfl⟩
theorem fl_X3_18 : FL RX3 18 3 0 := ⟨RX3, TX3, 2, rfl, inB3, by decide, big_1 (i := 189) (by rfl) rfl, rfl⟩
theorem fl_X4_9 : FL RX4 9 4 6 := ⟨RX4, TX4, 8, rfl, inB4, by decide, big_1 (i := 214) (by rfl) rfl, rfl⟩
theorem fl_X4_15 : FL RX4 15 4 7 := ⟨RX4, TX4, 8, rfl, inB4, by decide, big_1 (i := 215) (by rfl) rfl, rfl⟩
theorem fl_X4_18 : FL RX4 18 4 0 := ⟨RX4, TX4, 8, rfl, inB4, by decide, big_1 (i := 203) (by rfl) rfl, rfl⟩
theorem fl_X4_23 : FL RX4 23 4 1 := ⟨RX4, TX4, 8, rfl, inB4, by decide, big_1 (i := 205) (by rfl) rfl, rfl⟩
theorem fl_X4_26 : FL RX4 26 4 5 := ⟨RX4, TX4, 8, rfl, inB4, by decide, big_1 (i := 213) (by rfl) rfl, rfl⟩
theorem fl_X4_29 : FL RX4 29 4 2 := ⟨RX4, TX4, 8, rfl, inB4, by decide, big_1 (i := 207) (by rfl) rfl, rfl⟩
theorem fl_X4_36 : FL RX4 36 4 3 := ⟨RX4, TX4, 8, rfl, inB4, by decide, big_1 (i := 209) (by rfl) rfl, rfl⟩
theorem fl_X4_39 : FL RX4 39 4 4 := ⟨RX4, TX4, 8, rfl, inB4, by decide, big_1 (i := 211) (by rfl) rfl, rfl⟩
theorem fl_X5_9 : FL RX5 9 5 2 := ⟨RX5, TX5, 4, rfl, inB5, by decide, big_1 (i := 38) (by rfl) rfl, rfl⟩
theorem fl_X5_15 : FL RX5 15 5 3 := ⟨RX5, TX5, 4, rfl, inB5, by decide, big_1 (i := 39) (by rfl) rfl, rfl⟩
theorem fl_X5_18 : FL RX5 18 5 0 := ⟨RX5, TX5, 4, rfl, inB5, by decide, big_1 (i := 33) (by rfl) rfl, rfl⟩
theorem fl_X5_22 : FL RX5 22 5 1 := ⟨RX5, TX5, 4, rfl, inB5, by decide, big_1 (i := 36) (by rfl) rfl, rfl⟩
theorem fl_X6_9 : FL RX6 9 6 1 := ⟨RX6, TX6, 6, rfl, inB6, by decide, big_1 (i := 103) (by rfl) rfl, rfl⟩
theorem fl_X6_15 : FL RX6 15 6 2 := ⟨RX6, TX6, 6, rfl, inB6, by decide, big_1 (i := 106) (by rfl) rfl, rfl⟩
theorem fl_X6_18 : FL RX6 18 6 3 := ⟨RX6, TX6, 6, rfl, inB6, by decide, big_1 (i := 109) (by rfl) rfl, rfl⟩
theorem fl_X6_21 : FL RX6 21 6 4 := ⟨RX6, TX6, 6, rfl, inB6, by decide, big_1 (i := 112) (by rfl) rfl, rfl⟩
theorem fl_X6_24 : FL RX6 24 6 5 := ⟨RX6, TX6, 6, rfl, inB6, by decide, big_1 (i := 115) (by rfl) rfl, rfl⟩
theorem fl_X6_27 : FL RX6 27 6 0 := ⟨RX6, TX6, 6, rfl, inB6, by decide, big_1 (i := 100) (by rfl) rfl, rfl⟩
theorem fl_X8_7 : FL RX8 7 8 0 := ⟨RX8, TX8, 17, rfl, inB8, by decide, big_3 (i := 212) (by rfl) rfl, rfl⟩
theorem fl_X8_13 : FL RX8 13 8 1 := ⟨RX8, TX8, 17, rfl, inB8, by decide, big_3 (i := 213) (by rfl) rfl, rfl⟩
theorem fl_X8_16 : FL RX8 16 8 2 := ⟨RX8, TX8, 17, rfl, inB8, by decide, big_3 (i := 214) (by rfl) rfl, rfl⟩
theorem fl_X8_19 : FL RX8 19 8 3 := ⟨RX8, TX8, 17, rfl, inB8, by decide, big_3 (i := 215) (by rfl) rfl, rfl⟩
theorem fl_X8_22 : FL RX8 22 8 6 := ⟨RX8, TX8, 17, rfl, inB8, by decide, big_3 (i := 218) (by rfl) rfl, rfl⟩
theorem fl_X8_25 : FL RX8 25 8 8 := ⟨RX8, TX8, 17, rfl, inB8, by decide, big_3 (i := 220) (by rfl) rfl, rfl⟩
theorem fl_X8_28 : FL RX8 28 8 16 := ⟨RX8, TX8, 17, rfl, inB8, by decide, big_3 (i := 228) (by rfl) rfl, rfl⟩
theorem fl_X8_31 : FL RX8 31 8 4 := ⟨RX8, TX8, 17, rfl, inB8, by decide, big_3 (i := 216) (by rfl) rfl, rfl⟩
theorem fl_X8_35 : FL RX8 35 8 5 := ⟨RX8, TX8, 17, rfl, inB8, by decide, big_3 (i := 217) (by rfl) rfl, rfl⟩
theorem fl_X8_91 : FL RX8 91 8 9 := ⟨RX8, TX8, 17, rfl, inB8, by decide, big_3 (i := 221) (by rfl) rfl, rfl⟩
theorem fl_X8_146 : FL RX8 146 8 7 := ⟨RX8, TX8, 17, rfl, inB8, by decide, big_3 (i := 219) (by rfl) rfl, rfl⟩
theorem fl_X8_149 : FL RX8 149 8 10 := ⟨RX8, TX8, 17, rfl, inB8, by decide, big_3 (i := 222) (by rfl) rfl, rfl⟩
theorem fl_X8_155 : FL RX8 155 8 15 := ⟨RX8, TX8, 17, rfl, inB8, by decide, big_3 (i := 227) (by rfl) rfl, rfl⟩
theorem fl_X8_187 : FL RX8 187 8 11 := ⟨RX8, TX8, 17, rfl, inB8, by decide, big_3 (i := 223) (by rfl) rfl, rfl⟩
theorem fl_X8_190 : FL RX8 190 8 14 := ⟨RX8, TX8, 17, rfl, inB8, by decide, big_3 (i := 226) (by rfl) rfl, rfl⟩
theorem fl_X8_199 : FL RX8 199 8 12 := ⟨RX8, TX8, 17, rfl, inB8, by decide, big_3 (i := 224) (by rfl) rfl, rfl⟩
theorem fl_X8_202 : FL RX8 202 8 13 := ⟨RX8, TX8, 17, rfl, inB8, by decide, big_3 (i := 225) (by rfl) rfl, rfl⟩
theorem ml_X7_11 : Cond.methodLink RX7 11 yX1_init ∈ BIG := big_1 (i := 23) (by rfl) rfl
theorem ml_X7_21 : Cond.methodLink RX7 21 yX3_init ∈ BIG := big_1 (i := 182) (by rfl) rfl
theorem ml_X7_28 : Cond.methodLink RX7 28 yX4_init ∈ BIG := big_1 (i := 199) (by rfl) rfl
theorem ml_X7_33 : Cond.methodLink RX7 33 yX7_startTrial ∈ BIG := big_2 (i := 10) (by rfl) rfl
theorem ml_X7_36 : Cond.methodLink RX7 36 yX1_addPlayer ∈ BIG := big_2 (i := 46) (by rfl) rfl
theorem ml_X7_40 : Cond.methodLink RX7 40 yX7_keepTrial ∈ BIG := big_2 (i := 51) (by rfl) rfl
theorem ml_X7_44 : Cond.methodLink RX7 44 yX1_setSize ∈ BIG := big_2 (i := 68) (by rfl) rfl
theorem ml_X7_48 : Cond.methodLink RX7 48 yX1_addTask ∈ BIG := big_2 (i := 96) (by rfl) rfl
theorem ml_X7_52 : Cond.methodLink RX7 52 yX1_layContract ∈ BIG := big_2 (i := 104) (by rfl) rfl
theorem ml_X7_56 : Cond.methodLink RX7 56 yX1_putWorker ∈ BIG := big_2 (i := 112) (by rfl) rfl
theorem ml_X7_59 : Cond.methodLink RX7 59 yX1_takeHome ∈ BIG := big_2 (i := 158) (by rfl) rfl
theorem ml_X7_62 : Cond.methodLink RX7 62 yX1_flipByHand ∈ BIG := big_2 (i := 166) (by rfl) rfl
theorem ml_X7_65 : Cond.methodLink RX7 65 yX1_buyContract ∈ BIG := big_2 (i := 195) (by rfl) rfl
theorem ml_X7_68 : Cond.methodLink RX7 68 yX1_letPass ∈ BIG := big_2 (i := 211) (by rfl) rfl
theorem ml_X7_71 : Cond.methodLink RX7 71 yX1_hasPlayer ∈ BIG := big_2 (i := 237) (by rfl) rfl
theorem ml_X7_75 : Cond.methodLink RX7 75 yX7_within ∈ BIG := big_2 (i := 238) (by rfl) rfl
theorem ml_X7_94 : Cond.methodLink RX7 94 yX2_worksOf ∈ BIG := big_3 (i := 0) (by rfl) rfl
theorem ml_X7_99 : Cond.methodLink RX7 99 yX2_outOf ∈ BIG := big_3 (i := 8) (by rfl) rfl
theorem ml_X7_102 : Cond.methodLink RX7 102 yX2_waitingOf ∈ BIG := big_3 (i := 12) (by rfl) rfl
theorem ml_X7_105 : Cond.methodLink RX7 105 yX1_untilOneIsOut ∈ BIG := big_3 (i := 16) (by rfl) rfl
theorem ml_X7_108 : Cond.methodLink RX7 108 yX5_amountOf ∈ BIG := big_3 (i := 23) (by rfl) rfl
theorem ml_X7_111 : Cond.methodLink RX7 111 yX1_hasWorker ∈ BIG := big_3 (i := 28) (by rfl) rfl
theorem ml_X7_115 : Cond.methodLink RX7 115 yX7_glassOf ∈ BIG := big_3 (i := 29) (by rfl) rfl
theorem ml_X7_137 : Cond.methodLink RX7 137 yX1_hasTask ∈ BIG := big_3 (i := 35) (by rfl) rfl
theorem ml_X7_158 : Cond.methodLink RX7 158 yX1_placesLeft ∈ BIG := big_3 (i := 36) (by rfl) rfl
theorem ml_X7_162 : Cond.methodLink RX7 162 yX2_atPlace ∈ BIG := big_3 (i := 41) (by rfl) rfl
theorem ml_X7_165 : Cond.methodLink RX7 165 yX7_toldOf ∈ BIG := big_3 (i := 49) (by rfl) rfl
theorem ml_X7_168 : Cond.methodLink RX7 168 yX1_hasContract ∈ BIG := big_3 (i := 57) (by rfl) rfl
theorem ml_X7_181 : Cond.methodLink RX7 181 yX5_allWhoHave ∈ BIG := big_3 (i := 58) (by rfl) rfl
theorem ml_X7_184 : Cond.methodLink RX7 184 yX2_nextOut ∈ BIG := big_3 (i := 67) (by rfl) rfl
theorem ml_X7_187 : Cond.methodLink RX7 187 yX1_advance ∈ BIG := big_3 (i := 72) (by rfl) rfl
theorem ml_X7_190 : Cond.methodLink RX7 190 yX2_isOut ∈ BIG := big_3 (i := 77) (by rfl) rfl
theorem ml_X7_194 : Cond.methodLink RX7 194 yX1_bestTask ∈ BIG := big_3 (i := 79) (by rfl) rfl
theorem ml_X7_197 : Cond.methodLink RX7 197 yX6_differenceOf ∈ BIG := big_3 (i := 91) (by rfl) rfl
theorem ml_X7_200 : Cond.methodLink RX7 200 yX1_untilAffordable ∈ BIG := big_3 (i := 96) (by rfl) rfl
theorem ml_X7_207 : Cond.methodLink RX7 207 yX7_bitsOfShare ∈ BIG := big_3 (i := 105) (by rfl) rfl
theorem ml_X7_216 : Cond.methodLink RX7 216 yX2_allWorks ∈ BIG := big_3 (i := 114) (by rfl) rfl
theorem ml_X7_219 : Cond.methodLink RX7 219 yX2_allFlips ∈ BIG := big_3 (i := 121) (by rfl) rfl
theorem ml_X7_222 : Cond.methodLink RX7 222 yX5_ahead ∈ BIG := big_3 (i := 125) (by rfl) rfl
theorem ml_X7_232 : Cond.methodLink RX7 232 yX3_restore ∈ BIG := big_3 (i := 142) (by rfl) rfl
theorem ml_X7_236 : Cond.methodLink RX7 236 yX4_append ∈ BIG := big_3 (i := 151) (by rfl) rfl
theorem ml_X7_239 : Cond.methodLink RX7 239 yX4_clear ∈ BIG := big_3 (i := 160) (by rfl) rfl
theorem ml_X7_242 : Cond.methodLink RX7 242 yX4_obeyAll ∈ BIG := big_3 (i := 168) (by rfl) rfl
theorem ml_X7_258 : Cond.methodLink RX7 258 yX1_copyFrom ∈ BIG := big_2 (i := 14) (by rfl) rfl
theorem ml_X7_262 : Cond.methodLink RX7 262 yX3_record ∈ BIG := big_2 (i := 55) (by rfl) rfl
theorem ml_X7_265 : Cond.methodLink RX7 265 yX7_amountIn ∈ BIG := big_3 (i := 90) (by rfl) rfl
theorem ml_X7_268 : Cond.methodLink RX7 268 yX7_playerWith ∈ BIG := big_3 (i := 52) (by rfl) rfl
theorem ml_X1_11 : Cond.methodLink RX1 11 yX5_init ∈ BIG := big_1 (i := 29) (by rfl) rfl
theorem ml_X1_20 : Cond.methodLink RX1 20 yX2_init ∈ BIG := big_1 (i := 54) (by rfl) rfl
theorem ml_X1_27 : Cond.methodLink RX1 27 yX6_init ∈ BIG := big_1 (i := 96) (by rfl) rfl
theorem ml_X1_34 : Cond.methodLink RX1 34 yX0_init ∈ BIG := big_1 (i := 133) (by rfl) rfl
theorem ml_X1_47 : Cond.methodLink RX1 47 yX5_copyFrom ∈ BIG := big_2 (i := 18) (by rfl) rfl
theorem ml_X1_51 : Cond.methodLink RX1 51 yX2_copyFrom ∈ BIG := big_2 (i := 31) (by rfl) rfl
theorem ml_X1_54 : Cond.methodLink RX1 54 yX6_copyFrom ∈ BIG := big_2 (i := 36) (by rfl) rfl
theorem ml_X1_57 : Cond.methodLink RX1 57 yX0_copyFrom ∈ BIG := big_2 (i := 41) (by rfl) rfl
theorem ml_X1_67 : Cond.methodLink RX1 67 yX1_hasPlayer ∈ BIG := big_2 (i := 76) (by rfl) rfl
theorem ml_X1_74 : Cond.methodLink RX1 74 yX1_hasWorker ∈ BIG := big_2 (i := 72) (by rfl) rfl
theorem ml_X1_83 : Cond.methodLink RX1 83 yX2_isOut ∈ BIG := big_2 (i := 87) (by rfl) rfl
theorem ml_X1_108 : Cond.methodLink RX1 108 yX2_numberOn ∈ BIG := big_2 (i := 128) (by rfl) rfl
theorem ml_X1_115 : Cond.methodLink RX1 115 yX1_placesLeft ∈ BIG := big_2 (i := 124) (by rfl) rfl
theorem ml_X1_121 : Cond.methodLink RX1 121 yX5_have ∈ BIG := big_2 (i := 135) (by rfl) rfl
theorem ml_X1_124 : Cond.methodLink RX1 124 yX1_hasTask ∈ BIG := big_2 (i := 116) (by rfl) rfl
theorem ml_X1_127 : Cond.methodLink RX1 127 yX1_canBePut ∈ BIG := big_2 (i := 120) (by rfl) rfl
theorem ml_X1_130 : Cond.methodLink RX1 130 yX5_pay ∈ BIG := big_2 (i := 146) (by rfl) rfl
theorem ml_X1_134 : Cond.methodLink RX1 134 yX2_start ∈ BIG := big_2 (i := 150) (by rfl) rfl
theorem ml_X1_137 : Cond.methodLink RX1 137 yX2_flipOne ∈ BIG := big_2 (i := 170) (by rfl) rfl
theorem ml_X1_141 : Cond.methodLink RX1 141 yX1_addIfDue ∈ BIG := big_2 (i := 174) (by rfl) rfl
theorem ml_X1_144 : Cond.methodLink RX1 144 yX1_finishDue ∈ BIG := big_2 (i := 178) (by rfl) rfl
theorem ml_X1_151 : Cond.methodLink RX1 151 yX1_hasContract ∈ BIG := big_2 (i := 199) (by rfl) rfl
theorem ml_X1_155 : Cond.methodLink RX1 155 yX0_remove ∈ BIG := big_2 (i := 203) (by rfl) rfl
theorem ml_X1_158 : Cond.methodLink RX1 158 yX1_advance ∈ BIG := big_2 (i := 215) (by rfl) rfl
theorem ml_X1_161 : Cond.methodLink RX1 161 yX2_untilNextOut ∈ BIG := big_2 (i := 219) (by rfl) rfl
theorem ml_X1_182 : Cond.methodLink RX1 182 yX5_gain ∈ BIG := big_2 (i := 182) (by rfl) rfl
theorem ml_X1_184 : Cond.methodLink RX1 184 yX1_takeEffect ∈ BIG := big_2 (i := 187) (by rfl) rfl
theorem ml_X1_187 : Cond.methodLink RX1 187 yX2_outOf ∈ BIG := big_3 (i := 20) (by rfl) rfl
theorem ml_X1_191 : Cond.methodLink RX1 191 yX2_worksOf ∈ BIG := big_3 (i := 22) (by rfl) rfl
theorem ml_X1_194 : Cond.methodLink RX1 194 yX6_differenceOf ∈ BIG := big_3 (i := 83) (by rfl) rfl
theorem ml_X1_197 : Cond.methodLink RX1 197 yX1_putWorker ∈ BIG := big_3 (i := 100) (by rfl) rfl
theorem ml_X2_41 : Cond.methodLink RX2 41 yX2_aheadOnTask ∈ BIG := big_3 (i := 45) (by rfl) rfl
theorem ml_X2_45 : Cond.methodLink RX2 45 yX2_isOut ∈ BIG := big_2 (i := 227) (by rfl) rfl
theorem ml_X2_49 : Cond.methodLink RX2 49 yX2_nextOut ∈ BIG := big_2 (i := 223) (by rfl) rfl
theorem ml_X2_58 : Cond.methodLink RX2 58 yX2_sumOf ∈ BIG := big_3 (i := 4) (by rfl) rfl
theorem ml_X2_62 : Cond.methodLink RX2 62 yX2_sumOfAll ∈ BIG := big_3 (i := 118) (by rfl) rfl
theorem ml_X3_17 : Cond.methodLink RX3 17 yX1_init ∈ BIG := big_1 (i := 188) (by rfl) rfl
theorem ml_X3_22 : Cond.methodLink RX3 22 yX3_dropOldest ∈ BIG := big_2 (i := 59) (by rfl) rfl
theorem ml_X3_25 : Cond.methodLink RX3 25 yX1_copyFrom ∈ BIG := big_2 (i := 63) (by rfl) rfl
theorem ml_X4_32 : Cond.methodLink RX4 32 yX4_readOrder ∈ BIG := big_3 (i := 172) (by rfl) rfl
theorem ml_X4_42 : Cond.methodLink RX4 42 yX4_signAt ∈ BIG := big_3 (i := 176) (by rfl) rfl
theorem ml_X4_46 : Cond.methodLink RX4 46 yX4_obey ∈ BIG := big_3 (i := 192) (by rfl) rfl
theorem ml_X4_50 : Cond.methodLink RX4 50 yX4_numbersOf ∈ BIG := big_3 (i := 181) (by rfl) rfl
theorem ml_X4_53 : Cond.methodLink RX4 53 yX4_readNumber ∈ BIG := big_3 (i := 184) (by rfl) rfl
theorem ml_X4_57 : Cond.methodLink RX4 57 yX4_readSign ∈ BIG := big_3 (i := 188) (by rfl) rfl
theorem ml_X4_64 : Cond.methodLink RX4 64 yX1_addTask ∈ BIG := big_3 (i := 196) (by rfl) rfl
theorem ml_X4_70 : Cond.methodLink RX4 70 yX1_putWorker ∈ BIG := big_3 (i := 197) (by rfl) rfl
theorem ml_X4_74 : Cond.methodLink RX4 74 yX1_takeHome ∈ BIG := big_3 (i := 198) (by rfl) rfl
theorem ml_X4_78 : Cond.methodLink RX4 78 yX1_layContract ∈ BIG := big_3 (i := 199) (by rfl) rfl
theorem ml_X4_81 : Cond.methodLink RX4 81 yX1_buyContract ∈ BIG := big_3 (i := 200) (by rfl) rfl
theorem ml_X4_84 : Cond.methodLink RX4 84 yX1_letPass ∈ BIG := big_3 (i := 201) (by rfl) rfl
theorem ml_X5_29 : Cond.methodLink RX5 29 yX5_amountOf ∈ BIG := big_2 (i := 139) (by rfl) rfl
theorem ml_X5_36 : Cond.methodLink RX5 36 yX5_have ∈ BIG := big_3 (i := 62) (by rfl) rfl
theorem ml_X5_45 : Cond.methodLink RX5 45 yX5_allGoodsOf ∈ BIG := big_3 (i := 134) (by rfl) rfl
theorem ml_X5_50 : Cond.methodLink RX5 50 yX5_isAheadOf ∈ BIG := big_3 (i := 130) (by rfl) rfl
theorem ml_L_9 : Cond.methodLink RL 9 yX7_init ∈ BIG := big_1 (i := 15) (by rfl) rfl
theorem ml_L_12 : Cond.methodLink RL 12 yX8_init ∈ BIG := big_3 (i := 208) (by rfl) rfl
theorem ml_L_13 : Cond.methodLink RL 13 yX7_player ∈ BIG := big_2 (i := 6) (by rfl) rfl
theorem ml_L_17 : Cond.methodLink RL 17 yX8_player ∈ BIG := big_4 (i := 24) (by rfl) rfl
theorem ml_L_18 : Cond.methodLink RL 18 yX7_size ∈ BIG := big_2 (i := 64) (by rfl) rfl
theorem ml_L_22 : Cond.methodLink RL 22 yX8_size ∈ BIG := big_4 (i := 33) (by rfl) rfl
theorem ml_L_23 : Cond.methodLink RL 23 yX7_task ∈ BIG := big_2 (i := 92) (by rfl) rfl
theorem ml_L_27 : Cond.methodLink RL 27 yX8_task ∈ BIG := big_4 (i := 54) (by rfl) rfl
theorem ml_L_28 : Cond.methodLink RL 28 yX7_contract ∈ BIG := big_2 (i := 100) (by rfl) rfl
theorem ml_L_32 : Cond.methodLink RL 32 yX8_contract ∈ BIG := big_4 (i := 58) (by rfl) rfl
theorem ml_L_33 : Cond.methodLink RL 33 yX7_put ∈ BIG := big_2 (i := 108) (by rfl) rfl
theorem ml_L_36 : Cond.methodLink RL 36 yX8_put ∈ BIG := big_4 (i := 62) (by rfl) rfl
theorem ml_L_37 : Cond.methodLink RL 37 yX7_home ∈ BIG := big_2 (i := 154) (by rfl) rfl
theorem ml_L_40 : Cond.methodLink RL 40 yX8_home ∈ BIG := big_4 (i := 101) (by rfl) rfl
theorem ml_L_41 : Cond.methodLink RL 41 yX7_flip ∈ BIG := big_2 (i := 162) (by rfl) rfl
theorem ml_L_44 : Cond.methodLink RL 44 yX8_flip ∈ BIG := big_4 (i := 105) (by rfl) rfl
theorem ml_L_45 : Cond.methodLink RL 45 yX7_buy ∈ BIG := big_2 (i := 191) (by rfl) rfl
theorem ml_L_48 : Cond.methodLink RL 48 yX8_buy ∈ BIG := big_4 (i := 121) (by rfl) rfl
theorem ml_L_49 : Cond.methodLink RL 49 yX7_pass ∈ BIG := big_2 (i := 207) (by rfl) rfl
theorem ml_L_53 : Cond.methodLink RL 53 yX8_pass ∈ BIG := big_4 (i := 129) (by rfl) rfl
theorem ml_L_54 : Cond.methodLink RL 54 yX7_playerOf ∈ BIG := big_2 (i := 233) (by rfl) rfl
theorem ml_L_57 : Cond.methodLink RL 57 yX8_playerOf ∈ BIG := big_4 (i := 137) (by rfl) rfl
theorem ml_L_58 : Cond.methodLink RL 58 yX7_workerOf ∈ BIG := big_3 (i := 24) (by rfl) rfl
theorem ml_L_61 : Cond.methodLink RL 61 yX8_workerOf ∈ BIG := big_4 (i := 157) (by rfl) rfl
theorem ml_L_62 : Cond.methodLink RL 62 yX7_taskOf ∈ BIG := big_3 (i := 31) (by rfl) rfl
theorem ml_L_65 : Cond.methodLink RL 65 yX8_taskOf ∈ BIG := big_4 (i := 161) (by rfl) rfl
theorem ml_L_66 : Cond.methodLink RL 66 yX7_on ∈ BIG := big_3 (i := 37) (by rfl) rfl
theorem ml_L_69 : Cond.methodLink RL 69 yX8_on ∈ BIG := big_4 (i := 165) (by rfl) rfl
theorem ml_L_70 : Cond.methodLink RL 70 yX7_contractOf ∈ BIG := big_3 (i := 53) (by rfl) rfl
theorem ml_L_73 : Cond.methodLink RL 73 yX8_contractOf ∈ BIG := big_4 (i := 172) (by rfl) rfl
theorem ml_L_74 : Cond.methodLink RL 74 yX7_next ∈ BIG := big_3 (i := 63) (by rfl) rfl
theorem ml_L_77 : Cond.methodLink RL 77 yX8_next ∈ BIG := big_4 (i := 176) (by rfl) rfl
theorem ml_L_78 : Cond.methodLink RL 78 yX7_would ∈ BIG := big_3 (i := 68) (by rfl) rfl
theorem ml_L_81 : Cond.methodLink RL 81 yX8_would ∈ BIG := big_4 (i := 184) (by rfl) rfl
theorem ml_L_82 : Cond.methodLink RL 82 yX7_best ∈ BIG := big_3 (i := 73) (by rfl) rfl
theorem ml_L_85 : Cond.methodLink RL 85 yX8_best ∈ BIG := big_4 (i := 188) (by rfl) rfl
theorem ml_L_86 : Cond.methodLink RL 86 yX7_earns ∈ BIG := big_3 (i := 92) (by rfl) rfl
theorem ml_L_89 : Cond.methodLink RL 89 yX8_earns ∈ BIG := big_4 (i := 196) (by rfl) rfl
theorem ml_L_90 : Cond.methodLink RL 90 yX7_busy ∈ BIG := big_3 (i := 101) (by rfl) rfl
theorem ml_L_93 : Cond.methodLink RL 93 yX8_busy ∈ BIG := big_4 (i := 200) (by rfl) rfl
theorem ml_L_94 : Cond.methodLink RL 94 yX7_count ∈ BIG := big_3 (i := 110) (by rfl) rfl
theorem ml_L_97 : Cond.methodLink RL 97 yX8_count ∈ BIG := big_4 (i := 214) (by rfl) rfl
theorem ml_L_98 : Cond.methodLink RL 98 yX7_undo ∈ BIG := big_3 (i := 138) (by rfl) rfl
theorem ml_L_101 : Cond.methodLink RL 101 yX8_undo ∈ BIG := big_4 (i := 226) (by rfl) rfl
theorem ml_L_102 : Cond.methodLink RL 102 yX7_type ∈ BIG := big_3 (i := 147) (by rfl) rfl
theorem ml_L_105 : Cond.methodLink RL 105 yX8_type ∈ BIG := big_4 (i := 230) (by rfl) rfl
theorem ml_L_106 : Cond.methodLink RL 106 yX7_clearText ∈ BIG := big_3 (i := 156) (by rfl) rfl
theorem ml_L_109 : Cond.methodLink RL 109 yX8_clearText ∈ BIG := big_4 (i := 234) (by rfl) rfl
theorem ml_L_110 : Cond.methodLink RL 110 yX7_fault ∈ BIG := big_3 (i := 164) (by rfl) rfl
theorem ml_L_113 : Cond.methodLink RL 113 yX8_fault ∈ BIG := big_4 (i := 238) (by rfl) rfl
theorem ml_L_114 : Cond.methodLink RL 114 yX7_play ∈ BIG := big_3 (i := 202) (by rfl) rfl
theorem ml_L_117 : Cond.methodLink RL 117 yX8_play ∈ BIG := big_5 (i := 35) (by rfl) rfl
theorem ml_X8_39 : Cond.methodLink RX8 39 yX8_isPlayer ∈ BIG := big_4 (i := 41) (by rfl) rfl
theorem ml_X8_43 : Cond.methodLink RX8 43 yX8_in ∈ BIG := big_4 (i := 45) (by rfl) rfl
theorem ml_X8_47 : Cond.methodLink RX8 47 yX8_amount ∈ BIG := big_4 (i := 90) (by rfl) rfl
theorem ml_X8_52 : Cond.methodLink RX8 52 yX8_changes ∈ BIG := big_4 (i := 29) (by rfl) rfl
theorem ml_X8_55 : Cond.methodLink RX8 55 yX8_isWorker ∈ BIG := big_4 (i := 37) (by rfl) rfl
theorem ml_X8_60 : Cond.methodLink RX8 60 yX8_of ∈ BIG := big_4 (i := 49) (by rfl) rfl
theorem ml_X8_64 : Cond.methodLink RX8 64 yX8_ofTask ∈ BIG := big_4 (i := 78) (by rfl) rfl
theorem ml_X8_67 : Cond.methodLink RX8 67 yX8_workers ∈ BIG := big_4 (i := 82) (by rfl) rfl
theorem ml_X8_71 : Cond.methodLink RX8 71 yX8_left ∈ BIG := big_4 (i := 74) (by rfl) rfl
theorem ml_X8_75 : Cond.methodLink RX8 75 yX8_has ∈ BIG := big_4 (i := 86) (by rfl) rfl
theorem ml_X8_78 : Cond.methodLink RX8 78 yX8_pays ∈ BIG := big_4 (i := 97) (by rfl) rfl
theorem ml_X8_82 : Cond.methodLink RX8 82 yX8_isTask ∈ BIG := big_4 (i := 66) (by rfl) rfl
theorem ml_X8_85 : Cond.methodLink RX8 85 yX8_canPut ∈ BIG := big_4 (i := 70) (by rfl) rfl
theorem ml_X8_88 : Cond.methodLink RX8 88 yX8_puts ∈ BIG := big_4 (i := 93) (by rfl) rfl
theorem ml_X8_94 : Cond.methodLink RX8 94 yX8_gains ∈ BIG := big_4 (i := 117) (by rfl) rfl
theorem ml_X8_97 : Cond.methodLink RX8 97 yX8_flips ∈ BIG := big_4 (i := 109) (by rfl) rfl
theorem ml_X8_101 : Cond.methodLink RX8 101 yX8_works ∈ BIG := big_4 (i := 113) (by rfl) rfl
theorem ml_X8_104 : Cond.methodLink RX8 104 yX8_isContract ∈ BIG := big_4 (i := 125) (by rfl) rfl
theorem ml_X8_107 : Cond.methodLink RX8 107 yX8_goes ∈ BIG := big_4 (i := 133) (by rfl) rfl
theorem ml_X8_110 : Cond.methodLink RX8 110 yX8_outs ∈ BIG := big_4 (i := 141) (by rfl) rfl
theorem ml_X8_114 : Cond.methodLink RX8 114 yX8_copies ∈ BIG := big_4 (i := 154) (by rfl) rfl
theorem ml_X8_118 : Cond.methodLink RX8 118 yX8_waited ∈ BIG := big_4 (i := 145) (by rfl) rfl
theorem ml_X8_121 : Cond.methodLink RX8 121 yX8_nextOut ∈ BIG := big_4 (i := 149) (by rfl) rfl
theorem ml_X8_124 : Cond.methodLink RX8 124 yX8_told ∈ BIG := big_4 (i := 169) (by rfl) rfl
theorem ml_X8_127 : Cond.methodLink RX8 127 yX8_anySand ∈ BIG := big_4 (i := 180) (by rfl) rfl
theorem ml_X8_131 : Cond.methodLink RX8 131 yX8_sum ∈ BIG := big_4 (i := 192) (by rfl) rfl
theorem ml_X8_134 : Cond.methodLink RX8 134 yJxf58ca_floatToIntBits_5c35a ∈ BIG := big_4 (i := 204) (by rfl) rfl
theorem ml_X8_140 : Cond.methodLink RX8 140 yX8_goods ∈ BIG := big_4 (i := 222) (by rfl) rfl
theorem ml_X8_143 : Cond.methodLink RX8 143 yX8_ahead ∈ BIG := big_4 (i := 218) (by rfl) rfl
theorem ml_X8_152 : Cond.methodLink RX8 152 yX8_isAt ∈ BIG := big_5 (i := 10) (by rfl) rfl
theorem ml_X8_158 : Cond.methodLink RX8 158 yX8_numbersOf ∈ BIG := big_5 (i := 14) (by rfl) rfl
theorem ml_X8_161 : Cond.methodLink RX8 161 yX8_number ∈ BIG := big_5 (i := 17) (by rfl) rfl
theorem ml_X8_164 : Cond.methodLink RX8 164 yX8_sign ∈ BIG := big_5 (i := 21) (by rfl) rfl
theorem ml_X8_167 : Cond.methodLink RX8 167 yX8_task ∈ BIG := big_5 (i := 29) (by rfl) rfl
theorem ml_X8_171 : Cond.methodLink RX8 171 yX8_put ∈ BIG := big_5 (i := 30) (by rfl) rfl
theorem ml_X8_175 : Cond.methodLink RX8 175 yX8_home ∈ BIG := big_5 (i := 31) (by rfl) rfl
theorem ml_X8_178 : Cond.methodLink RX8 178 yX8_contract ∈ BIG := big_5 (i := 32) (by rfl) rfl
theorem ml_X8_181 : Cond.methodLink RX8 181 yX8_buy ∈ BIG := big_5 (i := 33) (by rfl) rfl
theorem ml_X8_184 : Cond.methodLink RX8 184 yX8_pass ∈ BIG := big_5 (i := 34) (by rfl) rfl
theorem ml_X8_193 : Cond.methodLink RX8 193 yX8_reads ∈ BIG := big_5 (i := 6) (by rfl) rfl
theorem ml_X8_196 : Cond.methodLink RX8 196 yX8_calls ∈ BIG := big_5 (i := 25) (by rfl) rfl
theorem ml_X8_205 : Cond.methodLink RX8 205 yX8_plays ∈ BIG := big_5 (i := 2) (by rfl) rfl
theorem ml_Jxf58ca_59 : Cond.methodLink RJxf58ca 59 yJxf58ca_isNaN_12338 ∈ BIG := big_4 (i := 207) (by rfl) rfl
theorem kc_X7_79 : Cond.constant RX7 79 (-1000001) ∈ BIG := big_2 (i := 239) (by rfl) rfl
theorem kc_X7_124 : Cond.constant RX7 124 (-1000004) ∈ BIG := big_3 (i := 30) (by rfl) rfl
theorem kc_X7_193 : Cond.constant RX7 193 (-1000002) ∈ BIG := big_3 (i := 78) (by rfl) rfl
theorem kc_X7_272 : Cond.constant RX7 272 (8388608) ∈ BIG := big_3 (i := 109) (by rfl) rfl
theorem kc_X1_73 : Cond.constant RX1 73 (-1000003) ∈ BIG := big_2 (i := 50) (by rfl) rfl
theorem kc_X1_78 : Cond.constant RX1 78 (-1000001) ∈ BIG := big_2 (i := 83) (by rfl) rfl
theorem kc_X1_86 : Cond.constant RX1 86 (-1000002) ∈ BIG := big_2 (i := 91) (by rfl) rfl
theorem kc_X1_190 : Cond.constant RX1 190 (-1000004) ∈ BIG := big_3 (i := 21) (by rfl) rfl
theorem kc_X2_53 : Cond.constant RX2 53 (1000000) ∈ BIG := big_2 (i := 228) (by rfl) rfl
theorem kc_X3_29 : Cond.constant RX3 29 (-1000002) ∈ BIG := big_3 (i := 146) (by rfl) rfl
theorem kc_X4_22 : Cond.constant RX4 22 (-1000003) ∈ BIG := big_3 (i := 155) (by rfl) rfl
theorem kc_X5_49 : Cond.constant RX5 49 (-1000004) ∈ BIG := big_3 (i := 129) (by rfl) rfl
theorem kc_X8_51 : Cond.constant RX8 51 (-1000003) ∈ BIG := big_4 (i := 28) (by rfl) rfl
theorem kc_X8_59 : Cond.constant RX8 59 (-1000001) ∈ BIG := big_4 (i := 48) (by rfl) rfl
theorem kc_X8_63 : Cond.constant RX8 63 (-1000002) ∈ BIG := big_4 (i := 53) (by rfl) rfl
theorem kc_X8_113 : Cond.constant RX8 113 (-1000004) ∈ BIG := big_4 (i := 153) (by rfl) rfl
theorem kc_Jxf58ca_77 : Cond.constant RJxf58ca 77 (2143289344) ∈ BIG := big_4 (i := 213) (by rfl) rfl
theorem mw_X0_init : MW yX0_init cX0_init 1 none 0 := ⟨big_1 (i := 135) (by rfl) rfl, big_1 (i := 6) (by rfl) rfl, by decide +kernel⟩
theorem mj_X0_init : Cond.instanceMethod yX0_init ∈ BIG := big_1 (i := 134) (by rfl) rfl
theorem mw_X0_copyFrom : MW yX0_copyFrom cX0_copyFrom 2 none 1 := ⟨big_2 (i := 44) (by rfl) rfl, big_1 (i := 6) (by rfl) rfl, by decide +kernel⟩
theorem mi_X0_copyFrom : MI yX0_copyFrom := ⟨big_2 (i := 42) (by rfl) rfl, big_2 (i := 43) (by rfl) rfl⟩
theorem mw_X0_remove : MW yX0_remove cX0_remove 3 none 1 := ⟨big_2 (i := 206) (by rfl) rfl, big_1 (i := 6) (by rfl) rfl, by decide +kernel⟩
theorem mi_X0_remove : MI yX0_remove := ⟨big_2 (i := 204) (by rfl) rfl, big_2 (i := 205) (by rfl) rfl⟩
theorem mw_X1_init : MW yX1_init cX1_init 1 none 0 := ⟨big_1 (i := 25) (by rfl) rfl, big_1 (i := 2) (by rfl) rfl, by decide +kernel⟩
theorem mj_X1_init : Cond.instanceMethod yX1_init ∈ BIG := big_1 (i := 24) (by rfl) rfl
theorem mw_X1_copyFrom : MW yX1_copyFrom cX1_copyFrom 2 none 1 := ⟨big_2 (i := 17) (by rfl) rfl, big_1 (i := 2) (by rfl) rfl, by decide +kernel⟩
theorem mi_X1_copyFrom : MI yX1_copyFrom := ⟨big_2 (i := 15) (by rfl) rfl, big_2 (i := 16) (by rfl) rfl⟩
theorem mw_X1_hasPlayer : MW yX1_hasPlayer cX1_hasPlayer 2 (some .boolean) 1 := ⟨big_2 (i := 79) (by rfl) rfl, big_1 (i := 2) (by rfl) rfl, by decide +kernel⟩
theorem mi_X1_hasPlayer : MI yX1_hasPlayer := ⟨big_2 (i := 77) (by rfl) rfl, big_2 (i := 78) (by rfl) rfl⟩
theorem mw_X1_hasWorker : MW yX1_hasWorker cX1_hasWorker 3 (some .boolean) 2 := ⟨big_2 (i := 75) (by rfl) rfl, big_1 (i := 2) (by rfl) rfl, by decide +kernel⟩
theorem mi_X1_hasWorker : MI yX1_hasWorker := ⟨big_2 (i := 73) (by rfl) rfl, big_2 (i := 74) (by rfl) rfl⟩
theorem mw_X1_hasTask : MW yX1_hasTask cX1_hasTask 2 (some .boolean) 1 := ⟨big_2 (i := 119) (by rfl) rfl, big_1 (i := 2) (by rfl) rfl, by decide +kernel⟩
theorem mi_X1_hasTask : MI yX1_hasTask := ⟨big_2 (i := 117) (by rfl) rfl, big_2 (i := 118) (by rfl) rfl⟩
theorem mw_X1_hasContract : MW yX1_hasContract cX1_hasContract 2 (some .boolean) 1 := ⟨big_2 (i := 202) (by rfl) rfl, big_1 (i := 2) (by rfl) rfl, by decide +kernel⟩
theorem mi_X1_hasContract : MI yX1_hasContract := ⟨big_2 (i := 200) (by rfl) rfl, big_2 (i := 201) (by rfl) rfl⟩
theorem mw_X1_addPlayer : MW yX1_addPlayer cX1_addPlayer 2 (some .int) 0 := ⟨big_2 (i := 49) (by rfl) rfl, big_1 (i := 2) (by rfl) rfl, by decide +kernel⟩
theorem mi_X1_addPlayer : MI yX1_addPlayer := ⟨big_2 (i := 47) (by rfl) rfl, big_2 (i := 48) (by rfl) rfl⟩
theorem mw_X1_setSize : MW yX1_setSize cX1_setSize 6 (some .int) 3 := ⟨big_2 (i := 71) (by rfl) rfl, big_1 (i := 2) (by rfl) rfl, by decide +kernel⟩
theorem mi_X1_setSize : MI yX1_setSize := ⟨big_2 (i := 69) (by rfl) rfl, big_2 (i := 70) (by rfl) rfl⟩
theorem mw_X1_addTask : MW yX1_addTask cX1_addTask 6 (some .int) 4 := ⟨big_2 (i := 99) (by rfl) rfl, big_1 (i := 2) (by rfl) rfl, by decide +kernel⟩
theorem mi_X1_addTask : MI yX1_addTask := ⟨big_2 (i := 97) (by rfl) rfl, big_2 (i := 98) (by rfl) rfl⟩
theorem mw_X1_layContract : MW yX1_layContract cX1_layContract 4 (some .int) 2 := ⟨big_2 (i := 107) (by rfl) rfl, big_1 (i := 2) (by rfl) rfl, by decide +kernel⟩
theorem mi_X1_layContract : MI yX1_layContract := ⟨big_2 (i := 105) (by rfl) rfl, big_2 (i := 106) (by rfl) rfl⟩
theorem mw_X1_placesLeft : MW yX1_placesLeft cX1_placesLeft 2 (some .int) 1 := ⟨big_2 (i := 127) (by rfl) rfl, big_1 (i := 2) (by rfl) rfl, by decide +kernel⟩
theorem mi_X1_placesLeft : MI yX1_placesLeft := ⟨big_2 (i := 125) (by rfl) rfl, big_2 (i := 126) (by rfl) rfl⟩
theorem mw_X1_canBePut : MW yX1_canBePut cX1_canBePut 4 (some .boolean) 2 := ⟨big_2 (i := 123) (by rfl) rfl, big_1 (i := 2) (by rfl) rfl, by decide +kernel⟩
theorem mi_X1_canBePut : MI yX1_canBePut := ⟨big_2 (i := 121) (by rfl) rfl, big_2 (i := 122) (by rfl) rfl⟩
theorem mw_X1_putWorker : MW yX1_putWorker cX1_putWorker 5 (some .int) 3 := ⟨big_2 (i := 115) (by rfl) rfl, big_1 (i := 2) (by rfl) rfl, by decide +kernel⟩
theorem mi_X1_putWorker : MI yX1_putWorker := ⟨big_2 (i := 113) (by rfl) rfl, big_2 (i := 114) (by rfl) rfl⟩
theorem mw_X1_takeHome : MW yX1_takeHome cX1_takeHome 5 (some .int) 2 := ⟨big_2 (i := 161) (by rfl) rfl, big_1 (i := 2) (by rfl) rfl, by decide +kernel⟩
theorem mi_X1_takeHome : MI yX1_takeHome := ⟨big_2 (i := 159) (by rfl) rfl, big_2 (i := 160) (by rfl) rfl⟩
theorem mw_X1_flipByHand : MW yX1_flipByHand cX1_flipByHand 4 (some .int) 2 := ⟨big_2 (i := 169) (by rfl) rfl, big_1 (i := 2) (by rfl) rfl, by decide +kernel⟩
theorem mi_X1_flipByHand : MI yX1_flipByHand := ⟨big_2 (i := 167) (by rfl) rfl, big_2 (i := 168) (by rfl) rfl⟩
theorem mw_X1_buyContract : MW yX1_buyContract cX1_buyContract 4 (some .int) 2 := ⟨big_2 (i := 198) (by rfl) rfl, big_1 (i := 2) (by rfl) rfl, by decide +kernel⟩
theorem mi_X1_buyContract : MI yX1_buyContract := ⟨big_2 (i := 196) (by rfl) rfl, big_2 (i := 197) (by rfl) rfl⟩
theorem mw_X1_letPass : MW yX1_letPass cX1_letPass 2 (some .int) 1 := ⟨big_2 (i := 214) (by rfl) rfl, big_1 (i := 2) (by rfl) rfl, by decide +kernel⟩
theorem mi_X1_letPass : MI yX1_letPass := ⟨big_2 (i := 212) (by rfl) rfl, big_2 (i := 213) (by rfl) rfl⟩
theorem mw_X1_advance : MW yX1_advance cX1_advance 6 (some .int) 1 := ⟨big_2 (i := 218) (by rfl) rfl, big_1 (i := 2) (by rfl) rfl, by decide +kernel⟩
theorem mi_X1_advance : MI yX1_advance := ⟨big_2 (i := 216) (by rfl) rfl, big_2 (i := 217) (by rfl) rfl⟩
theorem mw_X1_addIfDue : MW yX1_addIfDue cX1_addIfDue 2 none 1 := ⟨big_2 (i := 177) (by rfl) rfl, big_1 (i := 2) (by rfl) rfl, by decide +kernel⟩
theorem mi_X1_addIfDue : MI yX1_addIfDue := ⟨big_2 (i := 176) (by rfl) rfl, big_p (i := 3) (q := (yX1_addIfDue, _)) (by rfl)⟩
theorem mw_X1_finishDue : MW yX1_finishDue cX1_finishDue 4 (some .int) 0 := ⟨big_2 (i := 181) (by rfl) rfl, big_1 (i := 2) (by rfl) rfl, by decide +kernel⟩
theorem mi_X1_finishDue : MI yX1_finishDue := ⟨big_2 (i := 180) (by rfl) rfl, big_p (i := 4) (q := (yX1_finishDue, _)) (by rfl)⟩
theorem mw_X1_takeEffect : MW yX1_takeEffect cX1_takeEffect 4 none 2 := ⟨big_2 (i := 190) (by rfl) rfl, big_1 (i := 2) (by rfl) rfl, by decide +kernel⟩
theorem mi_X1_takeEffect : MI yX1_takeEffect := ⟨big_2 (i := 189) (by rfl) rfl, big_p (i := 5) (q := (yX1_takeEffect, _)) (by rfl)⟩
theorem mw_X1_untilOneIsOut : MW yX1_untilOneIsOut cX1_untilOneIsOut 6 (some .int) 1 := ⟨big_3 (i := 19) (by rfl) rfl, big_1 (i := 2) (by rfl) rfl, by decide +kernel⟩
theorem mi_X1_untilOneIsOut : MI yX1_untilOneIsOut := ⟨big_3 (i := 17) (by rfl) rfl, big_3 (i := 18) (by rfl) rfl⟩
theorem mw_X1_bestTask : MW yX1_bestTask cX1_bestTask 4 (some .int) 1 := ⟨big_3 (i := 82) (by rfl) rfl, big_1 (i := 2) (by rfl) rfl, by decide +kernel⟩
theorem mi_X1_bestTask : MI yX1_bestTask := ⟨big_3 (i := 80) (by rfl) rfl, big_3 (i := 81) (by rfl) rfl⟩
theorem mw_X1_untilAffordable : MW yX1_untilAffordable cX1_untilAffordable 7 (some .int) 3 := ⟨big_3 (i := 99) (by rfl) rfl, big_1 (i := 2) (by rfl) rfl, by decide +kernel⟩
theorem mi_X1_untilAffordable : MI yX1_untilAffordable := ⟨big_3 (i := 97) (by rfl) rfl, big_3 (i := 98) (by rfl) rfl⟩
theorem mw_X2_init : MW yX2_init cX2_init 2 none 0 := ⟨big_1 (i := 56) (by rfl) rfl, big_1 (i := 4) (by rfl) rfl, by decide +kernel⟩
theorem mj_X2_init : Cond.instanceMethod yX2_init ∈ BIG := big_1 (i := 55) (by rfl) rfl
theorem mw_X2_copyFrom : MW yX2_copyFrom cX2_copyFrom 2 none 1 := ⟨big_2 (i := 34) (by rfl) rfl, big_1 (i := 4) (by rfl) rfl, by decide +kernel⟩
theorem mi_X2_copyFrom : MI yX2_copyFrom := ⟨big_2 (i := 32) (by rfl) rfl, big_2 (i := 33) (by rfl) rfl⟩
theorem mw_X2_isOut : MW yX2_isOut cX2_isOut 2 (some .boolean) 1 := ⟨big_2 (i := 90) (by rfl) rfl, big_1 (i := 4) (by rfl) rfl, by decide +kernel⟩
theorem mi_X2_isOut : MI yX2_isOut := ⟨big_2 (i := 88) (by rfl) rfl, big_2 (i := 89) (by rfl) rfl⟩
theorem mw_X2_start : MW yX2_start cX2_start 3 none 2 := ⟨big_2 (i := 153) (by rfl) rfl, big_1 (i := 4) (by rfl) rfl, by decide +kernel⟩
theorem mi_X2_start : MI yX2_start := ⟨big_2 (i := 151) (by rfl) rfl, big_2 (i := 152) (by rfl) rfl⟩
theorem mw_X2_flipOne : MW yX2_flipOne cX2_flipOne 2 none 1 := ⟨big_2 (i := 173) (by rfl) rfl, big_1 (i := 4) (by rfl) rfl, by decide +kernel⟩
theorem mi_X2_flipOne : MI yX2_flipOne := ⟨big_2 (i := 171) (by rfl) rfl, big_2 (i := 172) (by rfl) rfl⟩
theorem mw_X2_numberOn : MW yX2_numberOn cX2_numberOn 4 (some .int) 1 := ⟨big_2 (i := 131) (by rfl) rfl, big_1 (i := 4) (by rfl) rfl, by decide +kernel⟩
theorem mi_X2_numberOn : MI yX2_numberOn := ⟨big_2 (i := 129) (by rfl) rfl, big_2 (i := 130) (by rfl) rfl⟩
theorem mw_X2_aheadOnTask : MW yX2_aheadOnTask cX2_aheadOnTask 4 (some .int) 1 := ⟨big_3 (i := 48) (by rfl) rfl, big_1 (i := 4) (by rfl) rfl, by decide +kernel⟩
theorem mi_X2_aheadOnTask : MI yX2_aheadOnTask := ⟨big_3 (i := 47) (by rfl) rfl, big_p (i := 6) (q := (yX2_aheadOnTask, _)) (by rfl)⟩
theorem mw_X2_atPlace : MW yX2_atPlace cX2_atPlace 4 (some .int) 2 := ⟨big_3 (i := 44) (by rfl) rfl, big_1 (i := 4) (by rfl) rfl, by decide +kernel⟩
theorem mi_X2_atPlace : MI yX2_atPlace := ⟨big_3 (i := 42) (by rfl) rfl, big_3 (i := 43) (by rfl) rfl⟩
theorem mw_X2_nextOut : MW yX2_nextOut cX2_nextOut 3 (some .int) 0 := ⟨big_2 (i := 226) (by rfl) rfl, big_1 (i := 4) (by rfl) rfl, by decide +kernel⟩
theorem mi_X2_nextOut : MI yX2_nextOut := ⟨big_2 (i := 224) (by rfl) rfl, big_2 (i := 225) (by rfl) rfl⟩
theorem mw_X2_untilNextOut : MW yX2_untilNextOut cX2_untilNextOut 2 (some .int) 0 := ⟨big_2 (i := 222) (by rfl) rfl, big_1 (i := 4) (by rfl) rfl, by decide +kernel⟩
theorem mi_X2_untilNextOut : MI yX2_untilNextOut := ⟨big_2 (i := 220) (by rfl) rfl, big_2 (i := 221) (by rfl) rfl⟩
theorem mw_X2_outOf : MW yX2_outOf cX2_outOf 4 (some .int) 1 := ⟨big_3 (i := 11) (by rfl) rfl, big_1 (i := 4) (by rfl) rfl, by decide +kernel⟩
theorem mi_X2_outOf : MI yX2_outOf := ⟨big_3 (i := 9) (by rfl) rfl, big_3 (i := 10) (by rfl) rfl⟩
theorem mw_X2_worksOf : MW yX2_worksOf cX2_worksOf 2 (some .int) 1 := ⟨big_3 (i := 3) (by rfl) rfl, big_1 (i := 4) (by rfl) rfl, by decide +kernel⟩
theorem mi_X2_worksOf : MI yX2_worksOf := ⟨big_3 (i := 1) (by rfl) rfl, big_3 (i := 2) (by rfl) rfl⟩
theorem mw_X2_waitingOf : MW yX2_waitingOf cX2_waitingOf 2 (some .int) 1 := ⟨big_3 (i := 15) (by rfl) rfl, big_1 (i := 4) (by rfl) rfl, by decide +kernel⟩
theorem mi_X2_waitingOf : MI yX2_waitingOf := ⟨big_3 (i := 13) (by rfl) rfl, big_3 (i := 14) (by rfl) rfl⟩
theorem mw_X2_allWorks : MW yX2_allWorks cX2_allWorks 1 (some .int) 0 := ⟨big_3 (i := 117) (by rfl) rfl, big_1 (i := 4) (by rfl) rfl, by decide +kernel⟩
theorem mi_X2_allWorks : MI yX2_allWorks := ⟨big_3 (i := 115) (by rfl) rfl, big_3 (i := 116) (by rfl) rfl⟩
theorem mw_X2_allFlips : MW yX2_allFlips cX2_allFlips 1 (some .int) 0 := ⟨big_3 (i := 124) (by rfl) rfl, big_1 (i := 4) (by rfl) rfl, by decide +kernel⟩
theorem mi_X2_allFlips : MI yX2_allFlips := ⟨big_3 (i := 122) (by rfl) rfl, big_3 (i := 123) (by rfl) rfl⟩
theorem mw_X2_sumOf : MW yX2_sumOf cX2_sumOf 4 (some .int) 2 := ⟨big_3 (i := 6) (by rfl) rfl, big_1 (i := 4) (by rfl) rfl, by decide +kernel⟩
theorem ms_X2_sumOf : Cond.static yX2_sumOf ∈ BIG := big_3 (i := 5) (by rfl) rfl
theorem mw_X2_sumOfAll : MW yX2_sumOfAll cX2_sumOfAll 3 (some .int) 1 := ⟨big_3 (i := 120) (by rfl) rfl, big_1 (i := 4) (by rfl) rfl, by decide +kernel⟩
theorem ms_X2_sumOfAll : Cond.static yX2_sumOfAll ∈ BIG := big_3 (i := 119) (by rfl) rfl
theorem mw_X3_init : MW yX3_init cX3_init 2 none 0 := ⟨big_1 (i := 184) (by rfl) rfl, big_1 (i := 7) (by rfl) rfl, by decide +kernel⟩
theorem mj_X3_init : Cond.instanceMethod yX3_init ∈ BIG := big_1 (i := 183) (by rfl) rfl
theorem mw_X3_record : MW yX3_record cX3_record 2 none 1 := ⟨big_2 (i := 58) (by rfl) rfl, big_1 (i := 7) (by rfl) rfl, by decide +kernel⟩
theorem mi_X3_record : MI yX3_record := ⟨big_2 (i := 56) (by rfl) rfl, big_2 (i := 57) (by rfl) rfl⟩
theorem mw_X3_dropOldest : MW yX3_dropOldest cX3_dropOldest 3 none 0 := ⟨big_2 (i := 62) (by rfl) rfl, big_1 (i := 7) (by rfl) rfl, by decide +kernel⟩
theorem mi_X3_dropOldest : MI yX3_dropOldest := ⟨big_2 (i := 61) (by rfl) rfl, big_p (i := 2) (q := (yX3_dropOldest, _)) (by rfl)⟩
theorem mw_X3_restore : MW yX3_restore cX3_restore 2 (some .int) 1 := ⟨big_3 (i := 145) (by rfl) rfl, big_1 (i := 7) (by rfl) rfl, by decide +kernel⟩
theorem mi_X3_restore : MI yX3_restore := ⟨big_3 (i := 143) (by rfl) rfl, big_3 (i := 144) (by rfl) rfl⟩
theorem mw_X4_init : MW yX4_init cX4_init 1 none 0 := ⟨big_1 (i := 201) (by rfl) rfl, big_1 (i := 8) (by rfl) rfl, by decide +kernel⟩
theorem mj_X4_init : Cond.instanceMethod yX4_init ∈ BIG := big_1 (i := 200) (by rfl) rfl
theorem mw_X4_append : MW yX4_append cX4_append 2 (some .int) 1 := ⟨big_3 (i := 154) (by rfl) rfl, big_1 (i := 8) (by rfl) rfl, by decide +kernel⟩
theorem mi_X4_append : MI yX4_append := ⟨big_3 (i := 152) (by rfl) rfl, big_3 (i := 153) (by rfl) rfl⟩
theorem mw_X4_clear : MW yX4_clear cX4_clear 2 (some .int) 0 := ⟨big_3 (i := 163) (by rfl) rfl, big_1 (i := 8) (by rfl) rfl, by decide +kernel⟩
theorem mi_X4_clear : MI yX4_clear := ⟨big_3 (i := 161) (by rfl) rfl, big_3 (i := 162) (by rfl) rfl⟩
theorem mw_X4_obeyAll : MW yX4_obeyAll cX4_obeyAll 3 (some .boolean) 1 := ⟨big_3 (i := 171) (by rfl) rfl, big_1 (i := 8) (by rfl) rfl, by decide +kernel⟩
theorem mi_X4_obeyAll : MI yX4_obeyAll := ⟨big_3 (i := 169) (by rfl) rfl, big_3 (i := 170) (by rfl) rfl⟩
theorem mw_X4_readOrder : MW yX4_readOrder cX4_readOrder 3 (some .boolean) 0 := ⟨big_3 (i := 175) (by rfl) rfl, big_1 (i := 8) (by rfl) rfl, by decide +kernel⟩
theorem mi_X4_readOrder : MI yX4_readOrder := ⟨big_3 (i := 174) (by rfl) rfl, big_p (i := 7) (q := (yX4_readOrder, _)) (by rfl)⟩
theorem mw_X4_readNumber : MW yX4_readNumber cX4_readNumber 4 (some .boolean) 1 := ⟨big_3 (i := 187) (by rfl) rfl, big_1 (i := 8) (by rfl) rfl, by decide +kernel⟩
theorem mi_X4_readNumber : MI yX4_readNumber := ⟨big_3 (i := 186) (by rfl) rfl, big_p (i := 9) (q := (yX4_readNumber, _)) (by rfl)⟩
theorem mw_X4_readSign : MW yX4_readSign cX4_readSign 2 (some .boolean) 1 := ⟨big_3 (i := 191) (by rfl) rfl, big_1 (i := 8) (by rfl) rfl, by decide +kernel⟩
theorem mi_X4_readSign : MI yX4_readSign := ⟨big_3 (i := 190) (by rfl) rfl, big_p (i := 10) (q := (yX4_readSign, _)) (by rfl)⟩
theorem mw_X4_signAt : MW yX4_signAt cX4_signAt 2 (some .int) 1 := ⟨big_3 (i := 179) (by rfl) rfl, big_1 (i := 8) (by rfl) rfl, by decide +kernel⟩
theorem mi_X4_signAt : MI yX4_signAt := ⟨big_3 (i := 178) (by rfl) rfl, big_p (i := 8) (q := (yX4_signAt, _)) (by rfl)⟩
theorem mw_X4_numbersOf : MW yX4_numbersOf cX4_numbersOf 1 (some .int) 1 := ⟨big_3 (i := 183) (by rfl) rfl, big_1 (i := 8) (by rfl) rfl, by decide +kernel⟩
theorem ms_X4_numbersOf : Cond.static yX4_numbersOf ∈ BIG := big_3 (i := 182) (by rfl) rfl
theorem mw_X4_obey : MW yX4_obey cX4_obey 3 (some .int) 2 := ⟨big_3 (i := 195) (by rfl) rfl, big_1 (i := 8) (by rfl) rfl, by decide +kernel⟩
theorem mi_X4_obey : MI yX4_obey := ⟨big_3 (i := 194) (by rfl) rfl, big_p (i := 11) (q := (yX4_obey, _)) (by rfl)⟩
theorem mw_X5_init : MW yX5_init cX5_init 2 none 0 := ⟨big_1 (i := 31) (by rfl) rfl, big_1 (i := 3) (by rfl) rfl, by decide +kernel⟩
theorem mj_X5_init : Cond.instanceMethod yX5_init ∈ BIG := big_1 (i := 30) (by rfl) rfl
theorem mw_X5_copyFrom : MW yX5_copyFrom cX5_copyFrom 2 none 1 := ⟨big_2 (i := 21) (by rfl) rfl, big_1 (i := 3) (by rfl) rfl, by decide +kernel⟩
theorem mi_X5_copyFrom : MI yX5_copyFrom := ⟨big_2 (i := 19) (by rfl) rfl, big_2 (i := 20) (by rfl) rfl⟩
theorem mw_X5_amountOf : MW yX5_amountOf cX5_amountOf 3 (some .int) 2 := ⟨big_2 (i := 142) (by rfl) rfl, big_1 (i := 3) (by rfl) rfl, by decide +kernel⟩
theorem mi_X5_amountOf : MI yX5_amountOf := ⟨big_2 (i := 140) (by rfl) rfl, big_2 (i := 141) (by rfl) rfl⟩
theorem mw_X5_have : MW yX5_have cX5_have 4 (some .boolean) 2 := ⟨big_2 (i := 138) (by rfl) rfl, big_1 (i := 3) (by rfl) rfl, by decide +kernel⟩
theorem mi_X5_have : MI yX5_have := ⟨big_2 (i := 136) (by rfl) rfl, big_2 (i := 137) (by rfl) rfl⟩
theorem mw_X5_allWhoHave : MW yX5_allWhoHave cX5_allWhoHave 4 (some .int) 1 := ⟨big_3 (i := 61) (by rfl) rfl, big_1 (i := 3) (by rfl) rfl, by decide +kernel⟩
theorem mi_X5_allWhoHave : MI yX5_allWhoHave := ⟨big_3 (i := 59) (by rfl) rfl, big_3 (i := 60) (by rfl) rfl⟩
theorem mw_X5_pay : MW yX5_pay cX5_pay 4 none 2 := ⟨big_2 (i := 149) (by rfl) rfl, big_1 (i := 3) (by rfl) rfl, by decide +kernel⟩
theorem mi_X5_pay : MI yX5_pay := ⟨big_2 (i := 147) (by rfl) rfl, big_2 (i := 148) (by rfl) rfl⟩
theorem mw_X5_gain : MW yX5_gain cX5_gain 6 none 2 := ⟨big_2 (i := 185) (by rfl) rfl, big_1 (i := 3) (by rfl) rfl, by decide +kernel⟩
theorem mi_X5_gain : MI yX5_gain := ⟨big_2 (i := 183) (by rfl) rfl, big_2 (i := 184) (by rfl) rfl⟩
theorem mw_X5_allGoodsOf : MW yX5_allGoodsOf cX5_allGoodsOf 2 (some .int) 1 := ⟨big_3 (i := 137) (by rfl) rfl, big_1 (i := 3) (by rfl) rfl, by decide +kernel⟩
theorem mi_X5_allGoodsOf : MI yX5_allGoodsOf := ⟨big_3 (i := 135) (by rfl) rfl, big_3 (i := 136) (by rfl) rfl⟩
theorem mw_X5_isAheadOf : MW yX5_isAheadOf cX5_isAheadOf 3 (some .boolean) 2 := ⟨big_3 (i := 133) (by rfl) rfl, big_1 (i := 3) (by rfl) rfl, by decide +kernel⟩
theorem mi_X5_isAheadOf : MI yX5_isAheadOf := ⟨big_3 (i := 131) (by rfl) rfl, big_3 (i := 132) (by rfl) rfl⟩
theorem mw_X5_ahead : MW yX5_ahead cX5_ahead 3 (some .int) 0 := ⟨big_3 (i := 128) (by rfl) rfl, big_1 (i := 3) (by rfl) rfl, by decide +kernel⟩
theorem mi_X5_ahead : MI yX5_ahead := ⟨big_3 (i := 126) (by rfl) rfl, big_3 (i := 127) (by rfl) rfl⟩
theorem mw_X6_init : MW yX6_init cX6_init 1 none 0 := ⟨big_1 (i := 98) (by rfl) rfl, big_1 (i := 5) (by rfl) rfl, by decide +kernel⟩
theorem mj_X6_init : Cond.instanceMethod yX6_init ∈ BIG := big_1 (i := 97) (by rfl) rfl
theorem mw_X6_copyFrom : MW yX6_copyFrom cX6_copyFrom 2 none 1 := ⟨big_2 (i := 39) (by rfl) rfl, big_1 (i := 5) (by rfl) rfl, by decide +kernel⟩
theorem mi_X6_copyFrom : MI yX6_copyFrom := ⟨big_2 (i := 37) (by rfl) rfl, big_2 (i := 38) (by rfl) rfl⟩
theorem mw_X6_differenceOf : MW yX6_differenceOf cX6_differenceOf 2 (some .int) 1 := ⟨big_3 (i := 86) (by rfl) rfl, big_1 (i := 5) (by rfl) rfl, by decide +kernel⟩
theorem mi_X6_differenceOf : MI yX6_differenceOf := ⟨big_3 (i := 84) (by rfl) rfl, big_3 (i := 85) (by rfl) rfl⟩
theorem mw_X7_init : MW yX7_init cX7_init 1 none 0 := ⟨big_1 (i := 17) (by rfl) rfl, big_1 (i := 1) (by rfl) rfl, by decide +kernel⟩
theorem mj_X7_init : Cond.instanceMethod yX7_init ∈ BIG := big_1 (i := 16) (by rfl) rfl
theorem mw_X7_player : MW yX7_player cX7_player 1 (some .int) 0 := ⟨big_2 (i := 9) (by rfl) rfl, big_1 (i := 1) (by rfl) rfl, by decide +kernel⟩
theorem mi_X7_player : MI yX7_player := ⟨big_2 (i := 7) (by rfl) rfl, big_2 (i := 8) (by rfl) rfl⟩
theorem mw_X7_size : MW yX7_size cX7_size 4 (some .int) 3 := ⟨big_2 (i := 67) (by rfl) rfl, big_1 (i := 1) (by rfl) rfl, by decide +kernel⟩
theorem mi_X7_size : MI yX7_size := ⟨big_2 (i := 65) (by rfl) rfl, big_2 (i := 66) (by rfl) rfl⟩
theorem mw_X7_task : MW yX7_task cX7_task 5 (some .int) 4 := ⟨big_2 (i := 95) (by rfl) rfl, big_1 (i := 1) (by rfl) rfl, by decide +kernel⟩
theorem mi_X7_task : MI yX7_task := ⟨big_2 (i := 93) (by rfl) rfl, big_2 (i := 94) (by rfl) rfl⟩
theorem mw_X7_contract : MW yX7_contract cX7_contract 3 (some .int) 2 := ⟨big_2 (i := 103) (by rfl) rfl, big_1 (i := 1) (by rfl) rfl, by decide +kernel⟩
theorem mi_X7_contract : MI yX7_contract := ⟨big_2 (i := 101) (by rfl) rfl, big_2 (i := 102) (by rfl) rfl⟩
theorem mw_X7_put : MW yX7_put cX7_put 4 (some .int) 3 := ⟨big_2 (i := 111) (by rfl) rfl, big_1 (i := 1) (by rfl) rfl, by decide +kernel⟩
theorem mi_X7_put : MI yX7_put := ⟨big_2 (i := 109) (by rfl) rfl, big_2 (i := 110) (by rfl) rfl⟩
theorem mw_X7_home : MW yX7_home cX7_home 3 (some .int) 2 := ⟨big_2 (i := 157) (by rfl) rfl, big_1 (i := 1) (by rfl) rfl, by decide +kernel⟩
theorem mi_X7_home : MI yX7_home := ⟨big_2 (i := 155) (by rfl) rfl, big_2 (i := 156) (by rfl) rfl⟩
theorem mw_X7_flip : MW yX7_flip cX7_flip 3 (some .int) 2 := ⟨big_2 (i := 165) (by rfl) rfl, big_1 (i := 1) (by rfl) rfl, by decide +kernel⟩
theorem mi_X7_flip : MI yX7_flip := ⟨big_2 (i := 163) (by rfl) rfl, big_2 (i := 164) (by rfl) rfl⟩
theorem mw_X7_buy : MW yX7_buy cX7_buy 3 (some .int) 2 := ⟨big_2 (i := 194) (by rfl) rfl, big_1 (i := 1) (by rfl) rfl, by decide +kernel⟩
theorem mi_X7_buy : MI yX7_buy := ⟨big_2 (i := 192) (by rfl) rfl, big_2 (i := 193) (by rfl) rfl⟩
theorem mw_X7_pass : MW yX7_pass cX7_pass 2 (some .int) 1 := ⟨big_2 (i := 210) (by rfl) rfl, big_1 (i := 1) (by rfl) rfl, by decide +kernel⟩
theorem mi_X7_pass : MI yX7_pass := ⟨big_2 (i := 208) (by rfl) rfl, big_2 (i := 209) (by rfl) rfl⟩
theorem mw_X7_playerOf : MW yX7_playerOf cX7_playerOf 3 (some .int) 2 := ⟨big_2 (i := 236) (by rfl) rfl, big_1 (i := 1) (by rfl) rfl, by decide +kernel⟩
theorem mi_X7_playerOf : MI yX7_playerOf := ⟨big_2 (i := 234) (by rfl) rfl, big_2 (i := 235) (by rfl) rfl⟩
theorem mw_X7_workerOf : MW yX7_workerOf cX7_workerOf 6 (some .int) 3 := ⟨big_3 (i := 27) (by rfl) rfl, big_1 (i := 1) (by rfl) rfl, by decide +kernel⟩
theorem mi_X7_workerOf : MI yX7_workerOf := ⟨big_3 (i := 25) (by rfl) rfl, big_3 (i := 26) (by rfl) rfl⟩
theorem mw_X7_taskOf : MW yX7_taskOf cX7_taskOf 3 (some .int) 2 := ⟨big_3 (i := 34) (by rfl) rfl, big_1 (i := 1) (by rfl) rfl, by decide +kernel⟩
theorem mi_X7_taskOf : MI yX7_taskOf := ⟨big_3 (i := 32) (by rfl) rfl, big_3 (i := 33) (by rfl) rfl⟩
theorem mw_X7_on : MW yX7_on cX7_on 4 (some .int) 2 := ⟨big_3 (i := 40) (by rfl) rfl, big_1 (i := 1) (by rfl) rfl, by decide +kernel⟩
theorem mi_X7_on : MI yX7_on := ⟨big_3 (i := 38) (by rfl) rfl, big_3 (i := 39) (by rfl) rfl⟩
theorem mw_X7_contractOf : MW yX7_contractOf cX7_contractOf 4 (some .int) 2 := ⟨big_3 (i := 56) (by rfl) rfl, big_1 (i := 1) (by rfl) rfl, by decide +kernel⟩
theorem mi_X7_contractOf : MI yX7_contractOf := ⟨big_3 (i := 54) (by rfl) rfl, big_3 (i := 55) (by rfl) rfl⟩
theorem mw_X7_next : MW yX7_next cX7_next 3 (some .int) 1 := ⟨big_3 (i := 66) (by rfl) rfl, big_1 (i := 1) (by rfl) rfl, by decide +kernel⟩
theorem mi_X7_next : MI yX7_next := ⟨big_3 (i := 64) (by rfl) rfl, big_3 (i := 65) (by rfl) rfl⟩
theorem mw_X7_would : MW yX7_would cX7_would 4 (some .int) 3 := ⟨big_3 (i := 71) (by rfl) rfl, big_1 (i := 1) (by rfl) rfl, by decide +kernel⟩
theorem mi_X7_would : MI yX7_would := ⟨big_3 (i := 69) (by rfl) rfl, big_3 (i := 70) (by rfl) rfl⟩
theorem mw_X7_best : MW yX7_best cX7_best 6 (some .int) 3 := ⟨big_3 (i := 76) (by rfl) rfl, big_1 (i := 1) (by rfl) rfl, by decide +kernel⟩
theorem mi_X7_best : MI yX7_best := ⟨big_3 (i := 74) (by rfl) rfl, big_3 (i := 75) (by rfl) rfl⟩
theorem mw_X7_earns : MW yX7_earns cX7_earns 4 (some .int) 3 := ⟨big_3 (i := 95) (by rfl) rfl, big_1 (i := 1) (by rfl) rfl, by decide +kernel⟩
theorem mi_X7_earns : MI yX7_earns := ⟨big_3 (i := 93) (by rfl) rfl, big_3 (i := 94) (by rfl) rfl⟩
theorem mw_X7_busy : MW yX7_busy cX7_busy 5 (some .int) 2 := ⟨big_3 (i := 104) (by rfl) rfl, big_1 (i := 1) (by rfl) rfl, by decide +kernel⟩
theorem mi_X7_busy : MI yX7_busy := ⟨big_3 (i := 102) (by rfl) rfl, big_3 (i := 103) (by rfl) rfl⟩
theorem mw_X7_count : MW yX7_count cX7_count 2 (some .int) 1 := ⟨big_3 (i := 113) (by rfl) rfl, big_1 (i := 1) (by rfl) rfl, by decide +kernel⟩
theorem mi_X7_count : MI yX7_count := ⟨big_3 (i := 111) (by rfl) rfl, big_3 (i := 112) (by rfl) rfl⟩
theorem mw_X7_undo : MW yX7_undo cX7_undo 1 (some .int) 0 := ⟨big_3 (i := 141) (by rfl) rfl, big_1 (i := 1) (by rfl) rfl, by decide +kernel⟩
theorem mi_X7_undo : MI yX7_undo := ⟨big_3 (i := 139) (by rfl) rfl, big_3 (i := 140) (by rfl) rfl⟩
theorem mw_X7_type : MW yX7_type cX7_type 2 (some .int) 1 := ⟨big_3 (i := 150) (by rfl) rfl, big_1 (i := 1) (by rfl) rfl, by decide +kernel⟩
theorem mi_X7_type : MI yX7_type := ⟨big_3 (i := 148) (by rfl) rfl, big_3 (i := 149) (by rfl) rfl⟩
theorem mw_X7_clearText : MW yX7_clearText cX7_clearText 1 (some .int) 0 := ⟨big_3 (i := 159) (by rfl) rfl, big_1 (i := 1) (by rfl) rfl, by decide +kernel⟩
theorem mi_X7_clearText : MI yX7_clearText := ⟨big_3 (i := 157) (by rfl) rfl, big_3 (i := 158) (by rfl) rfl⟩
theorem mw_X7_fault : MW yX7_fault cX7_fault 2 (some .int) 1 := ⟨big_3 (i := 167) (by rfl) rfl, big_1 (i := 1) (by rfl) rfl, by decide +kernel⟩
theorem mi_X7_fault : MI yX7_fault := ⟨big_3 (i := 165) (by rfl) rfl, big_3 (i := 166) (by rfl) rfl⟩
theorem mw_X7_play : MW yX7_play cX7_play 1 (some .int) 0 := ⟨big_3 (i := 205) (by rfl) rfl, big_1 (i := 1) (by rfl) rfl, by decide +kernel⟩
theorem mi_X7_play : MI yX7_play := ⟨big_3 (i := 203) (by rfl) rfl, big_3 (i := 204) (by rfl) rfl⟩
theorem mw_X7_startTrial : MW yX7_startTrial cX7_startTrial 1 none 0 := ⟨big_2 (i := 13) (by rfl) rfl, big_1 (i := 1) (by rfl) rfl, by decide +kernel⟩
theorem mi_X7_startTrial : MI yX7_startTrial := ⟨big_2 (i := 12) (by rfl) rfl, big_p (i := 0) (q := (yX7_startTrial, _)) (by rfl)⟩
theorem mw_X7_keepTrial : MW yX7_keepTrial cX7_keepTrial 2 (some .int) 1 := ⟨big_2 (i := 54) (by rfl) rfl, big_1 (i := 1) (by rfl) rfl, by decide +kernel⟩
theorem mi_X7_keepTrial : MI yX7_keepTrial := ⟨big_2 (i := 53) (by rfl) rfl, big_p (i := 1) (q := (yX7_keepTrial, _)) (by rfl)⟩
theorem mw_X7_within : MW yX7_within cX7_within 3 (some .boolean) 3 := ⟨big_2 (i := 82) (by rfl) rfl, big_1 (i := 1) (by rfl) rfl, by decide +kernel⟩
theorem ms_X7_within : Cond.static yX7_within ∈ BIG := big_2 (i := 81) (by rfl) rfl
theorem mw_X7_amountIn : MW yX7_amountIn cX7_amountIn 2 (some .int) 2 := ⟨big_2 (i := 145) (by rfl) rfl, big_1 (i := 1) (by rfl) rfl, by decide +kernel⟩
theorem ms_X7_amountIn : Cond.static yX7_amountIn ∈ BIG := big_2 (i := 144) (by rfl) rfl
theorem mw_X7_allAmountsIn : MW yX7_allAmountsIn cX7_allAmountsIn 1 (some .int) 1 := ⟨big_3 (i := 89) (by rfl) rfl, big_1 (i := 1) (by rfl) rfl, by decide +kernel⟩
theorem ms_X7_allAmountsIn : Cond.static yX7_allAmountsIn ∈ BIG := big_3 (i := 88) (by rfl) rfl
theorem mw_X7_glassOf : MW yX7_glassOf cX7_glassOf 2 (some .int) 2 := ⟨big_2 (i := 86) (by rfl) rfl, big_1 (i := 1) (by rfl) rfl, by decide +kernel⟩
theorem ms_X7_glassOf : Cond.static yX7_glassOf ∈ BIG := big_2 (i := 85) (by rfl) rfl
theorem mw_X7_playerWith : MW yX7_playerWith cX7_playerWith 1 (some .int) 1 := ⟨big_2 (i := 134) (by rfl) rfl, big_1 (i := 1) (by rfl) rfl, by decide +kernel⟩
theorem ms_X7_playerWith : Cond.static yX7_playerWith ∈ BIG := big_2 (i := 133) (by rfl) rfl
theorem mw_X7_toldOf : MW yX7_toldOf cX7_toldOf 1 (some .int) 1 := ⟨big_3 (i := 51) (by rfl) rfl, big_1 (i := 1) (by rfl) rfl, by decide +kernel⟩
theorem ms_X7_toldOf : Cond.static yX7_toldOf ∈ BIG := big_3 (i := 50) (by rfl) rfl
theorem mw_X7_bitsOfShare : MW yX7_bitsOfShare cX7_bitsOfShare 4 (some .int) 1 := ⟨big_3 (i := 107) (by rfl) rfl, big_1 (i := 1) (by rfl) rfl, by decide +kernel⟩
theorem ms_X7_bitsOfShare : Cond.static yX7_bitsOfShare ∈ BIG := big_3 (i := 106) (by rfl) rfl
theorem mw_X7_copyRow : MW yX7_copyRow cX7_copyRow 2 none 2 := ⟨big_2 (i := 24) (by rfl) rfl, big_1 (i := 1) (by rfl) rfl, by decide +kernel⟩
theorem ms_X7_copyRow : Cond.static yX7_copyRow ∈ BIG := big_2 (i := 23) (by rfl) rfl
theorem mw_X8_init : MW yX8_init cX8_init 1 none 0 := ⟨big_3 (i := 210) (by rfl) rfl, big_1 (i := 9) (by rfl) rfl, by decide +kernel⟩
theorem mj_X8_init : Cond.instanceMethod yX8_init ∈ BIG := big_3 (i := 209) (by rfl) rfl
theorem mw_X8_in : MW yX8_in cX8_in 3 (some .boolean) 3 := ⟨big_4 (i := 47) (by rfl) rfl, big_1 (i := 9) (by rfl) rfl, by decide +kernel⟩
theorem ms_X8_in : Cond.static yX8_in ∈ BIG := big_4 (i := 46) (by rfl) rfl
theorem mw_X8_copies : MW yX8_copies cX8_copies 3 none 2 := ⟨big_4 (i := 156) (by rfl) rfl, big_1 (i := 9) (by rfl) rfl, by decide +kernel⟩
theorem ms_X8_copies : Cond.static yX8_copies ∈ BIG := big_4 (i := 155) (by rfl) rfl
theorem mw_X8_changes : MW yX8_changes cX8_changes 2 none 0 := ⟨big_4 (i := 32) (by rfl) rfl, big_1 (i := 9) (by rfl) rfl, by decide +kernel⟩
theorem mi_X8_changes : MI yX8_changes := ⟨big_4 (i := 31) (by rfl) rfl, big_p (i := 12) (q := (yX8_changes, _)) (by rfl)⟩
theorem mw_X8_isPlayer : MW yX8_isPlayer cX8_isPlayer 2 (some .boolean) 1 := ⟨big_4 (i := 44) (by rfl) rfl, big_1 (i := 9) (by rfl) rfl, by decide +kernel⟩
theorem mi_X8_isPlayer : MI yX8_isPlayer := ⟨big_4 (i := 43) (by rfl) rfl, big_p (i := 14) (q := (yX8_isPlayer, _)) (by rfl)⟩
theorem mw_X8_isWorker : MW yX8_isWorker cX8_isWorker 3 (some .boolean) 2 := ⟨big_4 (i := 40) (by rfl) rfl, big_1 (i := 9) (by rfl) rfl, by decide +kernel⟩
theorem mi_X8_isWorker : MI yX8_isWorker := ⟨big_4 (i := 39) (by rfl) rfl, big_p (i := 13) (q := (yX8_isWorker, _)) (by rfl)⟩
theorem mw_X8_isTask : MW yX8_isTask cX8_isTask 2 (some .boolean) 1 := ⟨big_4 (i := 69) (by rfl) rfl, big_1 (i := 9) (by rfl) rfl, by decide +kernel⟩
theorem mi_X8_isTask : MI yX8_isTask := ⟨big_4 (i := 68) (by rfl) rfl, big_p (i := 16) (q := (yX8_isTask, _)) (by rfl)⟩
theorem mw_X8_isContract : MW yX8_isContract cX8_isContract 2 (some .boolean) 1 := ⟨big_4 (i := 128) (by rfl) rfl, big_1 (i := 9) (by rfl) rfl, by decide +kernel⟩
theorem mi_X8_isContract : MI yX8_isContract := ⟨big_4 (i := 127) (by rfl) rfl, big_p (i := 27) (q := (yX8_isContract, _)) (by rfl)⟩
theorem mw_X8_of : MW yX8_of cX8_of 3 (some .int) 2 := ⟨big_4 (i := 52) (by rfl) rfl, big_1 (i := 9) (by rfl) rfl, by decide +kernel⟩
theorem mi_X8_of : MI yX8_of := ⟨big_4 (i := 51) (by rfl) rfl, big_p (i := 15) (q := (yX8_of, _)) (by rfl)⟩
theorem mw_X8_ofTask : MW yX8_ofTask cX8_ofTask 3 (some .int) 2 := ⟨big_4 (i := 81) (by rfl) rfl, big_1 (i := 9) (by rfl) rfl, by decide +kernel⟩
theorem mi_X8_ofTask : MI yX8_ofTask := ⟨big_4 (i := 80) (by rfl) rfl, big_p (i := 19) (q := (yX8_ofTask, _)) (by rfl)⟩
theorem mw_X8_workers : MW yX8_workers cX8_workers 1 (some .int) 0 := ⟨big_4 (i := 85) (by rfl) rfl, big_1 (i := 9) (by rfl) rfl, by decide +kernel⟩
theorem mi_X8_workers : MI yX8_workers := ⟨big_4 (i := 84) (by rfl) rfl, big_p (i := 20) (q := (yX8_workers, _)) (by rfl)⟩
theorem mw_X8_amount : MW yX8_amount cX8_amount 2 (some .int) 2 := ⟨big_4 (i := 92) (by rfl) rfl, big_1 (i := 9) (by rfl) rfl, by decide +kernel⟩
theorem ms_X8_amount : Cond.static yX8_amount ∈ BIG := big_4 (i := 91) (by rfl) rfl
theorem mw_X8_has : MW yX8_has cX8_has 5 (some .boolean) 2 := ⟨big_4 (i := 89) (by rfl) rfl, big_1 (i := 9) (by rfl) rfl, by decide +kernel⟩
theorem mi_X8_has : MI yX8_has := ⟨big_4 (i := 88) (by rfl) rfl, big_p (i := 21) (q := (yX8_has, _)) (by rfl)⟩
theorem mw_X8_pays : MW yX8_pays cX8_pays 4 none 2 := ⟨big_4 (i := 100) (by rfl) rfl, big_1 (i := 9) (by rfl) rfl, by decide +kernel⟩
theorem mi_X8_pays : MI yX8_pays := ⟨big_4 (i := 99) (by rfl) rfl, big_p (i := 23) (q := (yX8_pays, _)) (by rfl)⟩
theorem mw_X8_player : MW yX8_player cX8_player 3 (some .int) 0 := ⟨big_4 (i := 27) (by rfl) rfl, big_1 (i := 9) (by rfl) rfl, by decide +kernel⟩
theorem mi_X8_player : MI yX8_player := ⟨big_4 (i := 25) (by rfl) rfl, big_4 (i := 26) (by rfl) rfl⟩
theorem mw_X8_size : MW yX8_size cX8_size 6 (some .int) 3 := ⟨big_4 (i := 36) (by rfl) rfl, big_1 (i := 9) (by rfl) rfl, by decide +kernel⟩
theorem mi_X8_size : MI yX8_size := ⟨big_4 (i := 34) (by rfl) rfl, big_4 (i := 35) (by rfl) rfl⟩
theorem mw_X8_task : MW yX8_task cX8_task 6 (some .int) 4 := ⟨big_4 (i := 57) (by rfl) rfl, big_1 (i := 9) (by rfl) rfl, by decide +kernel⟩
theorem mi_X8_task : MI yX8_task := ⟨big_4 (i := 55) (by rfl) rfl, big_4 (i := 56) (by rfl) rfl⟩
theorem mw_X8_contract : MW yX8_contract cX8_contract 4 (some .int) 2 := ⟨big_4 (i := 61) (by rfl) rfl, big_1 (i := 9) (by rfl) rfl, by decide +kernel⟩
theorem mi_X8_contract : MI yX8_contract := ⟨big_4 (i := 59) (by rfl) rfl, big_4 (i := 60) (by rfl) rfl⟩
theorem mw_X8_left : MW yX8_left cX8_left 4 (some .int) 1 := ⟨big_4 (i := 77) (by rfl) rfl, big_1 (i := 9) (by rfl) rfl, by decide +kernel⟩
theorem mi_X8_left : MI yX8_left := ⟨big_4 (i := 76) (by rfl) rfl, big_p (i := 18) (q := (yX8_left, _)) (by rfl)⟩
theorem mw_X8_canPut : MW yX8_canPut cX8_canPut 3 (some .boolean) 2 := ⟨big_4 (i := 73) (by rfl) rfl, big_1 (i := 9) (by rfl) rfl, by decide +kernel⟩
theorem mi_X8_canPut : MI yX8_canPut := ⟨big_4 (i := 72) (by rfl) rfl, big_p (i := 17) (q := (yX8_canPut, _)) (by rfl)⟩
theorem mw_X8_puts : MW yX8_puts cX8_puts 3 none 2 := ⟨big_4 (i := 96) (by rfl) rfl, big_1 (i := 9) (by rfl) rfl, by decide +kernel⟩
theorem mi_X8_puts : MI yX8_puts := ⟨big_4 (i := 95) (by rfl) rfl, big_p (i := 22) (q := (yX8_puts, _)) (by rfl)⟩
theorem mw_X8_put : MW yX8_put cX8_put 4 (some .int) 3 := ⟨big_4 (i := 65) (by rfl) rfl, big_1 (i := 9) (by rfl) rfl, by decide +kernel⟩
theorem mi_X8_put : MI yX8_put := ⟨big_4 (i := 63) (by rfl) rfl, big_4 (i := 64) (by rfl) rfl⟩
theorem mw_X8_home : MW yX8_home cX8_home 5 (some .int) 2 := ⟨big_4 (i := 104) (by rfl) rfl, big_1 (i := 9) (by rfl) rfl, by decide +kernel⟩
theorem mi_X8_home : MI yX8_home := ⟨big_4 (i := 102) (by rfl) rfl, big_4 (i := 103) (by rfl) rfl⟩
theorem mw_X8_flips : MW yX8_flips cX8_flips 2 none 1 := ⟨big_4 (i := 112) (by rfl) rfl, big_1 (i := 9) (by rfl) rfl, by decide +kernel⟩
theorem mi_X8_flips : MI yX8_flips := ⟨big_4 (i := 111) (by rfl) rfl, big_p (i := 24) (q := (yX8_flips, _)) (by rfl)⟩
theorem mw_X8_gains : MW yX8_gains cX8_gains 5 none 2 := ⟨big_4 (i := 120) (by rfl) rfl, big_1 (i := 9) (by rfl) rfl, by decide +kernel⟩
theorem mi_X8_gains : MI yX8_gains := ⟨big_4 (i := 119) (by rfl) rfl, big_p (i := 26) (q := (yX8_gains, _)) (by rfl)⟩
theorem mw_X8_works : MW yX8_works cX8_works 5 none 0 := ⟨big_4 (i := 116) (by rfl) rfl, big_1 (i := 9) (by rfl) rfl, by decide +kernel⟩
theorem mi_X8_works : MI yX8_works := ⟨big_4 (i := 115) (by rfl) rfl, big_p (i := 25) (q := (yX8_works, _)) (by rfl)⟩
theorem mw_X8_flip : MW yX8_flip cX8_flip 5 (some .int) 2 := ⟨big_4 (i := 108) (by rfl) rfl, big_1 (i := 9) (by rfl) rfl, by decide +kernel⟩
theorem mi_X8_flip : MI yX8_flip := ⟨big_4 (i := 106) (by rfl) rfl, big_4 (i := 107) (by rfl) rfl⟩
theorem mw_X8_buy : MW yX8_buy cX8_buy 5 (some .int) 2 := ⟨big_4 (i := 124) (by rfl) rfl, big_1 (i := 9) (by rfl) rfl, by decide +kernel⟩
theorem mi_X8_buy : MI yX8_buy := ⟨big_4 (i := 122) (by rfl) rfl, big_4 (i := 123) (by rfl) rfl⟩
theorem mw_X8_goes : MW yX8_goes cX8_goes 2 none 0 := ⟨big_4 (i := 136) (by rfl) rfl, big_1 (i := 9) (by rfl) rfl, by decide +kernel⟩
theorem mi_X8_goes : MI yX8_goes := ⟨big_4 (i := 135) (by rfl) rfl, big_p (i := 28) (q := (yX8_goes, _)) (by rfl)⟩
theorem mw_X8_pass : MW yX8_pass cX8_pass 4 (some .int) 1 := ⟨big_4 (i := 132) (by rfl) rfl, big_1 (i := 9) (by rfl) rfl, by decide +kernel⟩
theorem mi_X8_pass : MI yX8_pass := ⟨big_4 (i := 130) (by rfl) rfl, big_4 (i := 131) (by rfl) rfl⟩
theorem mw_X8_outs : MW yX8_outs cX8_outs 4 (some .int) 1 := ⟨big_4 (i := 144) (by rfl) rfl, big_1 (i := 9) (by rfl) rfl, by decide +kernel⟩
theorem mi_X8_outs : MI yX8_outs := ⟨big_4 (i := 143) (by rfl) rfl, big_p (i := 29) (q := (yX8_outs, _)) (by rfl)⟩
theorem mw_X8_waited : MW yX8_waited cX8_waited 2 (some .int) 1 := ⟨big_4 (i := 148) (by rfl) rfl, big_1 (i := 9) (by rfl) rfl, by decide +kernel⟩
theorem mi_X8_waited : MI yX8_waited := ⟨big_4 (i := 147) (by rfl) rfl, big_p (i := 30) (q := (yX8_waited, _)) (by rfl)⟩
theorem mw_X8_nextOut : MW yX8_nextOut cX8_nextOut 4 (some .int) 1 := ⟨big_4 (i := 152) (by rfl) rfl, big_1 (i := 9) (by rfl) rfl, by decide +kernel⟩
theorem mi_X8_nextOut : MI yX8_nextOut := ⟨big_4 (i := 151) (by rfl) rfl, big_p (i := 31) (q := (yX8_nextOut, _)) (by rfl)⟩
theorem mw_X8_playerOf : MW yX8_playerOf cX8_playerOf 3 (some .int) 2 := ⟨big_4 (i := 140) (by rfl) rfl, big_1 (i := 9) (by rfl) rfl, by decide +kernel⟩
theorem mi_X8_playerOf : MI yX8_playerOf := ⟨big_4 (i := 138) (by rfl) rfl, big_4 (i := 139) (by rfl) rfl⟩
theorem mw_X8_workerOf : MW yX8_workerOf cX8_workerOf 5 (some .int) 3 := ⟨big_4 (i := 160) (by rfl) rfl, big_1 (i := 9) (by rfl) rfl, by decide +kernel⟩
theorem mi_X8_workerOf : MI yX8_workerOf := ⟨big_4 (i := 158) (by rfl) rfl, big_4 (i := 159) (by rfl) rfl⟩
theorem mw_X8_taskOf : MW yX8_taskOf cX8_taskOf 3 (some .int) 2 := ⟨big_4 (i := 164) (by rfl) rfl, big_1 (i := 9) (by rfl) rfl, by decide +kernel⟩
theorem mi_X8_taskOf : MI yX8_taskOf := ⟨big_4 (i := 162) (by rfl) rfl, big_4 (i := 163) (by rfl) rfl⟩
theorem mw_X8_told : MW yX8_told cX8_told 1 (some .int) 1 := ⟨big_4 (i := 171) (by rfl) rfl, big_1 (i := 9) (by rfl) rfl, by decide +kernel⟩
theorem ms_X8_told : Cond.static yX8_told ∈ BIG := big_4 (i := 170) (by rfl) rfl
theorem mw_X8_on : MW yX8_on cX8_on 6 (some .int) 2 := ⟨big_4 (i := 168) (by rfl) rfl, big_1 (i := 9) (by rfl) rfl, by decide +kernel⟩
theorem mi_X8_on : MI yX8_on := ⟨big_4 (i := 166) (by rfl) rfl, big_4 (i := 167) (by rfl) rfl⟩
theorem mw_X8_contractOf : MW yX8_contractOf cX8_contractOf 5 (some .int) 2 := ⟨big_4 (i := 175) (by rfl) rfl, big_1 (i := 9) (by rfl) rfl, by decide +kernel⟩
theorem mi_X8_contractOf : MI yX8_contractOf := ⟨big_4 (i := 173) (by rfl) rfl, big_4 (i := 174) (by rfl) rfl⟩
theorem mw_X8_anySand : MW yX8_anySand cX8_anySand 3 (some .boolean) 0 := ⟨big_4 (i := 183) (by rfl) rfl, big_1 (i := 9) (by rfl) rfl, by decide +kernel⟩
theorem mi_X8_anySand : MI yX8_anySand := ⟨big_4 (i := 182) (by rfl) rfl, big_p (i := 32) (q := (yX8_anySand, _)) (by rfl)⟩
theorem mw_X8_next : MW yX8_next cX8_next 3 (some .int) 1 := ⟨big_4 (i := 179) (by rfl) rfl, big_1 (i := 9) (by rfl) rfl, by decide +kernel⟩
theorem mi_X8_next : MI yX8_next := ⟨big_4 (i := 177) (by rfl) rfl, big_4 (i := 178) (by rfl) rfl⟩
theorem mw_X8_would : MW yX8_would cX8_would 5 (some .int) 3 := ⟨big_4 (i := 187) (by rfl) rfl, big_1 (i := 9) (by rfl) rfl, by decide +kernel⟩
theorem mi_X8_would : MI yX8_would := ⟨big_4 (i := 185) (by rfl) rfl, big_4 (i := 186) (by rfl) rfl⟩
theorem mw_X8_sum : MW yX8_sum cX8_sum 2 (some .int) 1 := ⟨big_4 (i := 195) (by rfl) rfl, big_1 (i := 9) (by rfl) rfl, by decide +kernel⟩
theorem mi_X8_sum : MI yX8_sum := ⟨big_4 (i := 194) (by rfl) rfl, big_p (i := 33) (q := (yX8_sum, _)) (by rfl)⟩
theorem mw_X8_best : MW yX8_best cX8_best 9 (some .int) 3 := ⟨big_4 (i := 191) (by rfl) rfl, big_1 (i := 9) (by rfl) rfl, by decide +kernel⟩
theorem mi_X8_best : MI yX8_best := ⟨big_4 (i := 189) (by rfl) rfl, big_4 (i := 190) (by rfl) rfl⟩
theorem mw_X8_earns : MW yX8_earns cX8_earns 7 (some .int) 3 := ⟨big_4 (i := 199) (by rfl) rfl, big_1 (i := 9) (by rfl) rfl, by decide +kernel⟩
theorem mi_X8_earns : MI yX8_earns := ⟨big_4 (i := 197) (by rfl) rfl, big_4 (i := 198) (by rfl) rfl⟩
theorem mw_X8_busy : MW yX8_busy cX8_busy 5 (some .int) 2 := ⟨big_4 (i := 203) (by rfl) rfl, big_1 (i := 9) (by rfl) rfl, by decide +kernel⟩
theorem mi_X8_busy : MI yX8_busy := ⟨big_4 (i := 201) (by rfl) rfl, big_4 (i := 202) (by rfl) rfl⟩
theorem mw_X8_goods : MW yX8_goods cX8_goods 2 (some .int) 1 := ⟨big_4 (i := 225) (by rfl) rfl, big_1 (i := 9) (by rfl) rfl, by decide +kernel⟩
theorem mi_X8_goods : MI yX8_goods := ⟨big_4 (i := 224) (by rfl) rfl, big_p (i := 35) (q := (yX8_goods, _)) (by rfl)⟩
theorem mw_X8_ahead : MW yX8_ahead cX8_ahead 4 (some .int) 0 := ⟨big_4 (i := 221) (by rfl) rfl, big_1 (i := 9) (by rfl) rfl, by decide +kernel⟩
theorem mi_X8_ahead : MI yX8_ahead := ⟨big_4 (i := 220) (by rfl) rfl, big_p (i := 34) (q := (yX8_ahead, _)) (by rfl)⟩
theorem mw_X8_count : MW yX8_count cX8_count 2 (some .int) 1 := ⟨big_4 (i := 217) (by rfl) rfl, big_1 (i := 9) (by rfl) rfl, by decide +kernel⟩
theorem mi_X8_count : MI yX8_count := ⟨big_4 (i := 215) (by rfl) rfl, big_4 (i := 216) (by rfl) rfl⟩
theorem mw_X8_undo : MW yX8_undo cX8_undo 2 (some .int) 0 := ⟨big_4 (i := 229) (by rfl) rfl, big_1 (i := 9) (by rfl) rfl, by decide +kernel⟩
theorem mi_X8_undo : MI yX8_undo := ⟨big_4 (i := 227) (by rfl) rfl, big_4 (i := 228) (by rfl) rfl⟩
theorem mw_X8_type : MW yX8_type cX8_type 2 (some .int) 1 := ⟨big_4 (i := 233) (by rfl) rfl, big_1 (i := 9) (by rfl) rfl, by decide +kernel⟩
theorem mi_X8_type : MI yX8_type := ⟨big_4 (i := 231) (by rfl) rfl, big_4 (i := 232) (by rfl) rfl⟩
theorem mw_X8_clearText : MW yX8_clearText cX8_clearText 2 (some .int) 0 := ⟨big_4 (i := 237) (by rfl) rfl, big_1 (i := 9) (by rfl) rfl, by decide +kernel⟩
theorem mi_X8_clearText : MI yX8_clearText := ⟨big_4 (i := 235) (by rfl) rfl, big_4 (i := 236) (by rfl) rfl⟩
theorem mw_X8_isAt : MW yX8_isAt cX8_isAt 3 (some .boolean) 2 := ⟨big_5 (i := 13) (by rfl) rfl, big_1 (i := 9) (by rfl) rfl, by decide +kernel⟩
theorem mi_X8_isAt : MI yX8_isAt := ⟨big_5 (i := 12) (by rfl) rfl, big_p (i := 38) (q := (yX8_isAt, _)) (by rfl)⟩
theorem mw_X8_sign : MW yX8_sign cX8_sign 3 (some .boolean) 1 := ⟨big_5 (i := 24) (by rfl) rfl, big_1 (i := 9) (by rfl) rfl, by decide +kernel⟩
theorem mi_X8_sign : MI yX8_sign := ⟨big_5 (i := 23) (by rfl) rfl, big_p (i := 40) (q := (yX8_sign, _)) (by rfl)⟩
theorem mw_X8_number : MW yX8_number cX8_number 3 (some .boolean) 1 := ⟨big_5 (i := 20) (by rfl) rfl, big_1 (i := 9) (by rfl) rfl, by decide +kernel⟩
theorem mi_X8_number : MI yX8_number := ⟨big_5 (i := 19) (by rfl) rfl, big_p (i := 39) (q := (yX8_number, _)) (by rfl)⟩
theorem mw_X8_numbersOf : MW yX8_numbersOf cX8_numbersOf 1 (some .int) 1 := ⟨big_5 (i := 16) (by rfl) rfl, big_1 (i := 9) (by rfl) rfl, by decide +kernel⟩
theorem ms_X8_numbersOf : Cond.static yX8_numbersOf ∈ BIG := big_5 (i := 15) (by rfl) rfl
theorem mw_X8_reads : MW yX8_reads cX8_reads 4 (some .boolean) 0 := ⟨big_5 (i := 9) (by rfl) rfl, big_1 (i := 9) (by rfl) rfl, by decide +kernel⟩
theorem mi_X8_reads : MI yX8_reads := ⟨big_5 (i := 8) (by rfl) rfl, big_p (i := 37) (q := (yX8_reads, _)) (by rfl)⟩
theorem mw_X8_calls : MW yX8_calls cX8_calls 1 (some .int) 0 := ⟨big_5 (i := 28) (by rfl) rfl, big_1 (i := 9) (by rfl) rfl, by decide +kernel⟩
theorem mi_X8_calls : MI yX8_calls := ⟨big_5 (i := 27) (by rfl) rfl, big_p (i := 41) (q := (yX8_calls, _)) (by rfl)⟩
theorem mw_X8_plays : MW yX8_plays cX8_plays 4 (some .boolean) 0 := ⟨big_5 (i := 5) (by rfl) rfl, big_1 (i := 9) (by rfl) rfl, by decide +kernel⟩
theorem mi_X8_plays : MI yX8_plays := ⟨big_5 (i := 4) (by rfl) rfl, big_p (i := 36) (q := (yX8_plays, _)) (by rfl)⟩
theorem mw_X8_fault : MW yX8_fault cX8_fault 3 (some .int) 1 := ⟨big_5 (i := 1) (by rfl) rfl, big_1 (i := 9) (by rfl) rfl, by decide +kernel⟩
theorem mi_X8_fault : MI yX8_fault := ⟨big_4 (i := 239) (by rfl) rfl, big_5 (i := 0) (by rfl) rfl⟩
theorem mw_X8_play : MW yX8_play cX8_play 2 (some .int) 0 := ⟨big_5 (i := 38) (by rfl) rfl, big_1 (i := 9) (by rfl) rfl, by decide +kernel⟩
theorem mi_X8_play : MI yX8_play := ⟨big_5 (i := 36) (by rfl) rfl, big_5 (i := 37) (by rfl) rfl⟩
theorem math_max_s : Cond.static Lib.Math.max.name ∈ BIG := big_2 (i := 231) (by rfl) rfl
theorem math_max_c : Cond.code Lib.Math.max.name Lib.Math.max.code 2 (some .int) ∈ BIG := big_2 (i := 232) (by decide +kernel) rfl
theorem math_min_s : Cond.static Lib.Math.min.name ∈ BIG := big_2 (i := 26) (by rfl) rfl
theorem math_min_c : Cond.code Lib.Math.min.name Lib.Math.min.code 2 (some .int) ∈ BIG := big_2 (i := 27) (by decide +kernel) rfl
theorem math_i : Cond.initialized "java/lang/Math" ∈ BIG := big_1 (i := 10) (by rfl) rfl
theorem nl_X0_22 : (RX0, 22, yX7_copyRow, RX7) ∈ nwl := by simp [nwl]
theorem nl_X1_63 : (RX1, 63, yX7_within, RX7) ∈ nwl := by simp [nwl]
theorem nl_X1_79 : (RX1, 79, yX7_glassOf, RX7) ∈ nwl := by simp [nwl]
theorem nl_X1_118 : (RX1, 118, yX7_playerWith, RX7) ∈ nwl := by simp [nwl]
theorem nl_X2_37 : (RX2, 37, yX7_copyRow, RX7) ∈ nwl := by simp [nwl]
theorem nl_X2_54 : (RX2, 54, yX7_glassOf, RX7) ∈ nwl := by simp [nwl]
theorem nl_X4_60 : (RX4, 60, yX7_within, RX7) ∈ nwl := by simp [nwl]
theorem nl_X5_25 : (RX5, 25, yX7_copyRow, RX7) ∈ nwl := by simp [nwl]
theorem nl_X5_33 : (RX5, 33, yX7_amountIn, RX7) ∈ nwl := by simp [nwl]
theorem nl_X6_31 : (RX6, 31, yX7_copyRow, RX7) ∈ nwl := by simp [nwl]
theorem nl_X6_35 : (RX6, 35, yX7_allAmountsIn, RX7) ∈ nwl := by simp [nwl]
theorem ml_X7_273 : Cond.methodLink RX7 273 Lib.Math.min.name ∈ BIG := big_2 (i := 25) (by rfl) rfl
theorem ml_X1_164 : Cond.methodLink RX1 164 Lib.Math.min.name ∈ BIG := big_2 (i := 229) (by rfl) rfl
theorem ml_X1_169 : Cond.methodLink RX1 169 Lib.Math.max.name ∈ BIG := big_2 (i := 230) (by rfl) rfl
theorem ml_X5_40 : Cond.methodLink RX5 40 Lib.Math.min.name ∈ BIG := big_2 (i := 186) (by rfl) rfl
end
