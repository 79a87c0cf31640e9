-- ===== PART A: goes FIRST, ahead of the names: the tables' words, and 'selects' of the private methods out of them =====
/-- a private method of a class that the tables say can be made, by its rows of tables_1 -/
def lw_okq (q : MethodName × Nat) : Prop := (q.1.cls ≠ "java/lang/invoke/MethodHandle" ∧ q.1.cls ≠ "java/lang/invoke/VarHandle") ∧ Cond.instantiable q.1.cls q.2 ∈ tables_1 ∧ Cond.privateMethod q.1 ∈ tables_1 ∧ Cond.instanceMethod q.1 ∈ tables_1
theorem lw_p0 : lw_okq (⟨"DuskStones", "remember", "()V"⟩, 16) := ⟨⟨by decide +kernel, by decide +kernel⟩, List.mem_of_getElem? (i := 11) (by decide +kernel), List.mem_of_getElem? (i := 381) (by decide +kernel), List.mem_of_getElem? (i := 382) (by decide +kernel)⟩
theorem lw_p1 : lw_okq (⟨"DuskStones", "allPush", "(I)V"⟩, 16) := ⟨⟨by decide +kernel, by decide +kernel⟩, List.mem_of_getElem? (i := 11) (by decide +kernel), List.mem_of_getElem? (i := 488) (by decide +kernel), List.mem_of_getElem? (i := 489) (by decide +kernel)⟩
theorem lw_p2 : lw_okq (⟨"DuskStones", "agrees", "(I)Z"⟩, 16) := ⟨⟨by decide +kernel, by decide +kernel⟩, List.mem_of_getElem? (i := 11) (by decide +kernel), List.mem_of_getElem? (i := 548) (by decide +kernel), List.mem_of_getElem? (i := 549) (by decide +kernel)⟩
theorem lw_p3 : lw_okq (⟨"DuskStones", "isOverBehind", "(III)Z"⟩, 16) := ⟨⟨by decide +kernel, by decide +kernel⟩, List.mem_of_getElem? (i := 11) (by decide +kernel), List.mem_of_getElem? (i := 563) (by decide +kernel), List.mem_of_getElem? (i := 564) (by decide +kernel)⟩
theorem lw_p4 : lw_okq (⟨"DuskStones", "rateAs", "(II)I"⟩, 16) := ⟨⟨by decide +kernel, by decide +kernel⟩, List.mem_of_getElem? (i := 11) (by decide +kernel), List.mem_of_getElem? (i := 579) (by decide +kernel), List.mem_of_getElem? (i := 580) (by decide +kernel)⟩
theorem lw_p5 : lw_okq (⟨"DuskStonesModel", "begin", "()V"⟩, 33) := ⟨⟨by decide +kernel, by decide +kernel⟩, List.mem_of_getElem? (i := 607) (by decide +kernel), List.mem_of_getElem? (i := 613) (by decide +kernel), List.mem_of_getElem? (i := 614) (by decide +kernel)⟩
theorem lw_p6 : lw_okq (⟨"DuskStonesModel", "next", "()V"⟩, 33) := ⟨⟨by decide +kernel, by decide +kernel⟩, List.mem_of_getElem? (i := 607) (by decide +kernel), List.mem_of_getElem? (i := 733) (by decide +kernel), List.mem_of_getElem? (i := 734) (by decide +kernel)⟩
theorem lw_p7 : lw_okq (⟨"DuskStonesModel", "takeItem", "()V"⟩, 33) := ⟨⟨by decide +kernel, by decide +kernel⟩, List.mem_of_getElem? (i := 607) (by decide +kernel), List.mem_of_getElem? (i := 742) (by decide +kernel), List.mem_of_getElem? (i := 743) (by decide +kernel)⟩
theorem lw_p8 : lw_okq (⟨"DuskStonesModel", "want", "(Z)Z"⟩, 33) := ⟨⟨by decide +kernel, by decide +kernel⟩, List.mem_of_getElem? (i := 607) (by decide +kernel), List.mem_of_getElem? (i := 746) (by decide +kernel), List.mem_of_getElem? (i := 747) (by decide +kernel)⟩
theorem lw_p9 : lw_okq (⟨"DuskStonesModel", "takeHill", "()V"⟩, 33) := ⟨⟨by decide +kernel, by decide +kernel⟩, List.mem_of_getElem? (i := 607) (by decide +kernel), List.mem_of_getElem? (i := 750) (by decide +kernel), List.mem_of_getElem? (i := 751) (by decide +kernel)⟩
theorem lw_p10 : lw_okq (⟨"DuskStonesModel", "takeNumber", "(II)I"⟩, 33) := ⟨⟨by decide +kernel, by decide +kernel⟩, List.mem_of_getElem? (i := 607) (by decide +kernel), List.mem_of_getElem? (i := 754) (by decide +kernel), List.mem_of_getElem? (i := 755) (by decide +kernel)⟩
theorem lw_p11 : lw_okq (⟨"DuskStonesModel", "takeJoin", "()V"⟩, 33) := ⟨⟨by decide +kernel, by decide +kernel⟩, List.mem_of_getElem? (i := 607) (by decide +kernel), List.mem_of_getElem? (i := 758) (by decide +kernel), List.mem_of_getElem? (i := 759) (by decide +kernel)⟩
theorem lw_p12 : lw_okq (⟨"DuskStonesModel", "isHill", "(I)Z"⟩, 33) := ⟨⟨by decide +kernel, by decide +kernel⟩, List.mem_of_getElem? (i := 607) (by decide +kernel), List.mem_of_getElem? (i := 769) (by decide +kernel), List.mem_of_getElem? (i := 770) (by decide +kernel)⟩
theorem lw_p13 : lw_okq (⟨"DuskStonesModel", "sizeIn", "(II)I"⟩, 33) := ⟨⟨by decide +kernel, by decide +kernel⟩, List.mem_of_getElem? (i := 607) (by decide +kernel), List.mem_of_getElem? (i := 777) (by decide +kernel), List.mem_of_getElem? (i := 778) (by decide +kernel)⟩
theorem lw_p14 : lw_okq (⟨"DuskStonesModel", "sizeBy", "(II)I"⟩, 33) := ⟨⟨by decide +kernel, by decide +kernel⟩, List.mem_of_getElem? (i := 607) (by decide +kernel), List.mem_of_getElem? (i := 781) (by decide +kernel), List.mem_of_getElem? (i := 782) (by decide +kernel)⟩
theorem lw_p15 : lw_okq (⟨"DuskStonesModel", "isOver", "(II)Z"⟩, 33) := ⟨⟨by decide +kernel, by decide +kernel⟩, List.mem_of_getElem? (i := 607) (by decide +kernel), List.mem_of_getElem? (i := 785) (by decide +kernel), List.mem_of_getElem? (i := 786) (by decide +kernel)⟩
def lw_privs_1 : List (MethodName × Nat) := [(⟨"DuskStones", "remember", "()V"⟩, 16), (⟨"DuskStones", "allPush", "(I)V"⟩, 16), (⟨"DuskStones", "agrees", "(I)Z"⟩, 16), (⟨"DuskStones", "isOverBehind", "(III)Z"⟩, 16), (⟨"DuskStones", "rateAs", "(II)I"⟩, 16), (⟨"DuskStonesModel", "begin", "()V"⟩, 33), (⟨"DuskStonesModel", "next", "()V"⟩, 33), (⟨"DuskStonesModel", "takeItem", "()V"⟩, 33), (⟨"DuskStonesModel", "want", "(Z)Z"⟩, 33), (⟨"DuskStonesModel", "takeHill", "()V"⟩, 33), (⟨"DuskStonesModel", "takeNumber", "(II)I"⟩, 33), (⟨"DuskStonesModel", "takeJoin", "()V"⟩, 33), (⟨"DuskStonesModel", "isHill", "(I)Z"⟩, 33), (⟨"DuskStonesModel", "sizeIn", "(II)I"⟩, 33), (⟨"DuskStonesModel", "sizeBy", "(II)I"⟩, 33), (⟨"DuskStonesModel", "isOver", "(II)Z"⟩, 33)]
theorem lw_r1 : ∀ q ∈ lw_privs_1, lw_okq q := List.forall_mem_cons.mpr ⟨lw_p0, List.forall_mem_cons.mpr ⟨lw_p1, List.forall_mem_cons.mpr ⟨lw_p2, List.forall_mem_cons.mpr ⟨lw_p3, List.forall_mem_cons.mpr ⟨lw_p4, List.forall_mem_cons.mpr ⟨lw_p5, List.forall_mem_cons.mpr ⟨lw_p6, List.forall_mem_cons.mpr ⟨lw_p7, List.forall_mem_cons.mpr ⟨lw_p8, List.forall_mem_cons.mpr ⟨lw_p9, List.forall_mem_cons.mpr ⟨lw_p10, List.forall_mem_cons.mpr ⟨lw_p11, List.forall_mem_cons.mpr ⟨lw_p12, List.forall_mem_cons.mpr ⟨lw_p13, List.forall_mem_cons.mpr ⟨lw_p14, List.forall_mem_cons.mpr ⟨lw_p15, fun _ h => absurd h List.not_mem_nil⟩⟩⟩⟩⟩⟩⟩⟩⟩⟩⟩⟩⟩⟩⟩⟩
theorem lw_p16 : lw_okq (⟨"DuskStonesModel", "isMan", "(I)Z"⟩, 33) := ⟨⟨by decide +kernel, by decide +kernel⟩, List.mem_of_getElem? (i := 607) (by decide +kernel), List.mem_of_getElem? (i := 796) (by decide +kernel), List.mem_of_getElem? (i := 797) (by decide +kernel)⟩
theorem lw_p17 : lw_okq (⟨"DuskStonesModel", "over", "()I"⟩, 33) := ⟨⟨by decide +kernel, by decide +kernel⟩, List.mem_of_getElem? (i := 607) (by decide +kernel), List.mem_of_getElem? (i := 804) (by decide +kernel), List.mem_of_getElem? (i := 805) (by decide +kernel)⟩
theorem lw_p18 : lw_okq (⟨"DuskStonesModel", "remember", "()V"⟩, 33) := ⟨⟨by decide +kernel, by decide +kernel⟩, List.mem_of_getElem? (i := 607) (by decide +kernel), List.mem_of_getElem? (i := 812) (by decide +kernel), List.mem_of_getElem? (i := 813) (by decide +kernel)⟩
theorem lw_p19 : lw_okq (⟨"DuskStonesModel", "copy", "(II)V"⟩, 33) := ⟨⟨by decide +kernel, by decide +kernel⟩, List.mem_of_getElem? (i := 607) (by decide +kernel), List.mem_of_getElem? (i := 816) (by decide +kernel), List.mem_of_getElem? (i := 817) (by decide +kernel)⟩
theorem lw_p20 : lw_okq (⟨"DuskStonesModel", "push", "(I)I"⟩, 33) := ⟨⟨by decide +kernel, by decide +kernel⟩, List.mem_of_getElem? (i := 607) (by decide +kernel), List.mem_of_getElem? (i := 824) (by decide +kernel), List.mem_of_getElem? (i := 825) (by decide +kernel)⟩
theorem lw_p21 : lw_okq (⟨"DuskStonesModel", "overIn", "(I)I"⟩, 33) := ⟨⟨by decide +kernel, by decide +kernel⟩, List.mem_of_getElem? (i := 607) (by decide +kernel), List.mem_of_getElem? (i := 828) (by decide +kernel), List.mem_of_getElem? (i := 829) (by decide +kernel)⟩
theorem lw_p22 : lw_okq (⟨"DuskStonesModel", "pushOf", "(II)I"⟩, 33) := ⟨⟨by decide +kernel, by decide +kernel⟩, List.mem_of_getElem? (i := 607) (by decide +kernel), List.mem_of_getElem? (i := 832) (by decide +kernel), List.mem_of_getElem? (i := 833) (by decide +kernel)⟩
theorem lw_p23 : lw_okq (⟨"DuskStonesModel", "blocksIn", "(III)I"⟩, 33) := ⟨⟨by decide +kernel, by decide +kernel⟩, List.mem_of_getElem? (i := 607) (by decide +kernel), List.mem_of_getElem? (i := 836) (by decide +kernel), List.mem_of_getElem? (i := 837) (by decide +kernel)⟩
theorem lw_p24 : lw_okq (⟨"DuskStonesModel", "tire", "(II)V"⟩, 33) := ⟨⟨by decide +kernel, by decide +kernel⟩, List.mem_of_getElem? (i := 607) (by decide +kernel), List.mem_of_getElem? (i := 840) (by decide +kernel), List.mem_of_getElem? (i := 841) (by decide +kernel)⟩
theorem lw_p25 : lw_okq (⟨"DuskStonesModel", "rainsOn", "(I)Z"⟩, 33) := ⟨⟨by decide +kernel, by decide +kernel⟩, List.mem_of_getElem? (i := 607) (by decide +kernel), List.mem_of_getElem? (i := 844) (by decide +kernel), List.mem_of_getElem? (i := 845) (by decide +kernel)⟩
theorem lw_p26 : lw_okq (⟨"DuskStonesModel", "dusk", "(IZ)V"⟩, 33) := ⟨⟨by decide +kernel, by decide +kernel⟩, List.mem_of_getElem? (i := 607) (by decide +kernel), List.mem_of_getElem? (i := 848) (by decide +kernel), List.mem_of_getElem? (i := 849) (by decide +kernel)⟩
theorem lw_p27 : lw_okq (⟨"DuskStonesModel", "isCode", "(II)Z"⟩, 33) := ⟨⟨by decide +kernel, by decide +kernel⟩, List.mem_of_getElem? (i := 607) (by decide +kernel), List.mem_of_getElem? (i := 860) (by decide +kernel), List.mem_of_getElem? (i := 861) (by decide +kernel)⟩
theorem lw_p28 : lw_okq (⟨"DuskStonesModel", "stepBy", "(III)I"⟩, 33) := ⟨⟨by decide +kernel, by decide +kernel⟩, List.mem_of_getElem? (i := 607) (by decide +kernel), List.mem_of_getElem? (i := 864) (by decide +kernel), List.mem_of_getElem? (i := 865) (by decide +kernel)⟩
theorem lw_p29 : lw_okq (⟨"DuskStonesModel", "orderAll", "(III)V"⟩, 33) := ⟨⟨by decide +kernel, by decide +kernel⟩, List.mem_of_getElem? (i := 607) (by decide +kernel), List.mem_of_getElem? (i := 868) (by decide +kernel), List.mem_of_getElem? (i := 869) (by decide +kernel)⟩
theorem lw_p30 : lw_okq (⟨"DuskStonesModel", "goToDusk", "(IZ)V"⟩, 33) := ⟨⟨by decide +kernel, by decide +kernel⟩, List.mem_of_getElem? (i := 607) (by decide +kernel), List.mem_of_getElem? (i := 876) (by decide +kernel), List.mem_of_getElem? (i := 877) (by decide +kernel)⟩
theorem lw_p31 : lw_okq (⟨"DuskStonesModel", "isOverBy", "(II)Z"⟩, 33) := ⟨⟨by decide +kernel, by decide +kernel⟩, List.mem_of_getElem? (i := 607) (by decide +kernel), List.mem_of_getElem? (i := 884) (by decide +kernel), List.mem_of_getElem? (i := 885) (by decide +kernel)⟩
def lw_privs_2 : List (MethodName × Nat) := [(⟨"DuskStonesModel", "isMan", "(I)Z"⟩, 33), (⟨"DuskStonesModel", "over", "()I"⟩, 33), (⟨"DuskStonesModel", "remember", "()V"⟩, 33), (⟨"DuskStonesModel", "copy", "(II)V"⟩, 33), (⟨"DuskStonesModel", "push", "(I)I"⟩, 33), (⟨"DuskStonesModel", "overIn", "(I)I"⟩, 33), (⟨"DuskStonesModel", "pushOf", "(II)I"⟩, 33), (⟨"DuskStonesModel", "blocksIn", "(III)I"⟩, 33), (⟨"DuskStonesModel", "tire", "(II)V"⟩, 33), (⟨"DuskStonesModel", "rainsOn", "(I)Z"⟩, 33), (⟨"DuskStonesModel", "dusk", "(IZ)V"⟩, 33), (⟨"DuskStonesModel", "isCode", "(II)Z"⟩, 33), (⟨"DuskStonesModel", "stepBy", "(III)I"⟩, 33), (⟨"DuskStonesModel", "orderAll", "(III)V"⟩, 33), (⟨"DuskStonesModel", "goToDusk", "(IZ)V"⟩, 33), (⟨"DuskStonesModel", "isOverBy", "(II)Z"⟩, 33)]
theorem lw_r2 : ∀ q ∈ lw_privs_2, lw_okq q := List.forall_mem_cons.mpr ⟨lw_p16, List.forall_mem_cons.mpr ⟨lw_p17, List.forall_mem_cons.mpr ⟨lw_p18, List.forall_mem_cons.mpr ⟨lw_p19, List.forall_mem_cons.mpr ⟨lw_p20, List.forall_mem_cons.mpr ⟨lw_p21, List.forall_mem_cons.mpr ⟨lw_p22, List.forall_mem_cons.mpr ⟨lw_p23, List.forall_mem_cons.mpr ⟨lw_p24, List.forall_mem_cons.mpr ⟨lw_p25, List.forall_mem_cons.mpr ⟨lw_p26, List.forall_mem_cons.mpr ⟨lw_p27, List.forall_mem_cons.mpr ⟨lw_p28, List.forall_mem_cons.mpr ⟨lw_p29, List.forall_mem_cons.mpr ⟨lw_p30, List.forall_mem_cons.mpr ⟨lw_p31, fun _ h => absurd h List.not_mem_nil⟩⟩⟩⟩⟩⟩⟩⟩⟩⟩⟩⟩⟩⟩⟩⟩
theorem lw_p32 : lw_okq (⟨"DuskStonesModel", "stoneRate", "(I)I"⟩, 33) := ⟨⟨by decide +kernel, by decide +kernel⟩, List.mem_of_getElem? (i := 607) (by decide +kernel), List.mem_of_getElem? (i := 936) (by decide +kernel), List.mem_of_getElem? (i := 937) (by decide +kernel)⟩
theorem lw_p33 : lw_okq (⟨"DuskStonesModel", "roundRate", "(I)I"⟩, 33) := ⟨⟨by decide +kernel, by decide +kernel⟩, List.mem_of_getElem? (i := 607) (by decide +kernel), List.mem_of_getElem? (i := 940) (by decide +kernel), List.mem_of_getElem? (i := 941) (by decide +kernel)⟩
theorem lw_p34 : lw_okq (⟨"DuskStonesModel", "splitRate", "(I)I"⟩, 33) := ⟨⟨by decide +kernel, by decide +kernel⟩, List.mem_of_getElem? (i := 607) (by decide +kernel), List.mem_of_getElem? (i := 944) (by decide +kernel), List.mem_of_getElem? (i := 945) (by decide +kernel)⟩
theorem lw_p35 : lw_okq (⟨"DuskStonesModel", "wetRate", "(I)I"⟩, 33) := ⟨⟨by decide +kernel, by decide +kernel⟩, List.mem_of_getElem? (i := 607) (by decide +kernel), List.mem_of_getElem? (i := 949) (by decide +kernel), List.mem_of_getElem? (i := 950) (by decide +kernel)⟩
theorem lw_p36 : lw_okq (⟨"DuskStonesModel", "lentRate", "(I)I"⟩, 33) := ⟨⟨by decide +kernel, by decide +kernel⟩, List.mem_of_getElem? (i := 607) (by decide +kernel), List.mem_of_getElem? (i := 954) (by decide +kernel), List.mem_of_getElem? (i := 955) (by decide +kernel)⟩
theorem lw_p37 : lw_okq (⟨"DuskStonesModel", "hollowRate", "(I)I"⟩, 33) := ⟨⟨by decide +kernel, by decide +kernel⟩, List.mem_of_getElem? (i := 607) (by decide +kernel), List.mem_of_getElem? (i := 959) (by decide +kernel), List.mem_of_getElem? (i := 960) (by decide +kernel)⟩
def lw_privs_3 : List (MethodName × Nat) := [(⟨"DuskStonesModel", "stoneRate", "(I)I"⟩, 33), (⟨"DuskStonesModel", "roundRate", "(I)I"⟩, 33), (⟨"DuskStonesModel", "splitRate", "(I)I"⟩, 33), (⟨"DuskStonesModel", "wetRate", "(I)I"⟩, 33), (⟨"DuskStonesModel", "lentRate", "(I)I"⟩, 33), (⟨"DuskStonesModel", "hollowRate", "(I)I"⟩, 33)]
theorem lw_r3 : ∀ q ∈ lw_privs_3, lw_okq q := List.forall_mem_cons.mpr ⟨lw_p32, List.forall_mem_cons.mpr ⟨lw_p33, List.forall_mem_cons.mpr ⟨lw_p34, List.forall_mem_cons.mpr ⟨lw_p35, List.forall_mem_cons.mpr ⟨lw_p36, List.forall_mem_cons.mpr ⟨lw_p37, fun _ h => absurd h List.not_mem_nil⟩⟩⟩⟩⟩⟩
def lw_privs : List (MethodName × Nat) := lw_privs_1 ++ (lw_privs_2 ++ (lw_privs_3))
def lw_tbl : List Cond := k2_sels lw_privs ++ tables_1
theorem lw_privs_ok : ∀ q ∈ lw_privs, lw_okq q := by
  show ∀ q ∈ lw_privs_1 ++ (lw_privs_2 ++ (lw_privs_3)), lw_okq q
  exact List.forall_mem_append.mpr ⟨lw_r1, List.forall_mem_append.mpr ⟨lw_r2, lw_r3⟩⟩

def RX0 : String := "DuskStones$Climb"
def TX0 : u_T := fun k => match k with
  | 0 => ("DuskStones$Climb", "strength", "[[I", true)
  | 1 => ("DuskStones$Climb", "row", "[I", true)
  | 2 => ("DuskStones$Climb", "bestRow", "[I", true)
  | 3 => ("DuskStones$Climb", "best", "I", false)
  | 4 => ("DuskStones$Climb", "need", "I", false)
  | 5 => ("DuskStones$Climb", "hours", "I", false)
  | _ => ("DuskStones$Climb", "free", "I", false)
def tyX0 : Nat → FieldType := fun k => match k with
  | 0 => .array (.array .int)
  | 1 => .array .int
  | 2 => .array .int
  | 3 => .int
  | 4 => .int
  | 5 => .int
  | _ => .int
theorem nmX0 : ∀ a, a < 7 → ∀ b, b < 7 → a ≠ b → (TX0 a).2.1 ≠ (TX0 b).2.1 := by decide +kernel
theorem tyX0_ok : ∀ k, k < 7 → parseFieldDescriptor (TX0 k).2.2.1 = some (tyX0 k) := by decide +kernel
abbrev cX0_init : ByteArray := prog_2_method_1_code
def yX0_init : MethodName := ⟨RX0, "<init>", "()V"⟩
abbrev cX0_search : ByteArray := prog_2_method_2_code
def yX0_search : MethodName := ⟨RX0, "search", "(LDuskStones$Land;LDuskStones$Moment;I)V"⟩
abbrev cX0_explore : ByteArray := prog_2_method_3_code
def yX0_explore : MethodName := ⟨RX0, "explore", "(LDuskStones$Land;II)V"⟩
abbrev cX0_keepRow : ByteArray := prog_2_method_4_code
def yX0_keepRow : MethodName := ⟨RX0, "keepRow", "(II)V"⟩
abbrev cX0_isJustEnough : ByteArray := prog_2_method_5_code
def yX0_isJustEnough : MethodName := ⟨RX0, "isJustEnough", "(LDuskStones$Land;II)Z"⟩
abbrev cX0_isIn : ByteArray := prog_2_method_6_code
def yX0_isIn : MethodName := ⟨RX0, "isIn", "(II)Z"⟩
abbrev cX0_tire : ByteArray := prog_2_method_7_code
def yX0_tire : MethodName := ⟨RX0, "tire", "(LDuskStones$Land;II)V"⟩
def RX1 : String := "DuskStones$Land"
def TX1 : u_T := fun k => match k with
  | 0 => ("DuskStones$Land", "hills", "I", false)
  | 1 => ("DuskStones$Land", "high", "[I", true)
  | 2 => ("DuskStones$Land", "slope", "[I", true)
  | 3 => ("DuskStones$Land", "ledges", "[I", true)
  | 4 => ("DuskStones$Land", "size", "[I", true)
  | 5 => ("DuskStones$Land", "joins", "I", false)
  | 6 => ("DuskStones$Land", "joinA", "[I", true)
  | 7 => ("DuskStones$Land", "joinB", "[I", true)
  | 8 => ("DuskStones$Land", "joinFrom", "[I", true)
  | 9 => ("DuskStones$Land", "men", "I", false)
  | 10 => ("DuskStones$Land", "force", "[I", true)
  | 11 => ("DuskStones$Land", "hours", "I", false)
  | 12 => ("DuskStones$Land", "rain", "I", false)
  | 13 => ("DuskStones$Land", "hoursTold", "Z", false)
  | _ => ("DuskStones$Land", "rainTold", "Z", false)
def tyX1 : Nat → FieldType := fun k => match k with
  | 0 => .int
  | 1 => .array .int
  | 2 => .array .int
  | 3 => .array .int
  | 4 => .array .int
  | 5 => .int
  | 6 => .array .int
  | 7 => .array .int
  | 8 => .array .int
  | 9 => .int
  | 10 => .array .int
  | 11 => .int
  | 12 => .int
  | 13 => .boolean
  | _ => .boolean
theorem nmX1 : ∀ a, a < 15 → ∀ b, b < 15 → a ≠ b → (TX1 a).2.1 ≠ (TX1 b).2.1 := by decide +kernel
theorem tyX1_ok : ∀ k, k < 15 → parseFieldDescriptor (TX1 k).2.2.1 = some (tyX1 k) := by decide +kernel
abbrev cX1_init : ByteArray := prog_3_method_1_code
def yX1_init : MethodName := ⟨RX1, "<init>", "()V"⟩
abbrev cX1_empty : ByteArray := prog_3_method_2_code
def yX1_empty : MethodName := ⟨RX1, "empty", "()V"⟩
abbrev cX1_hasHill : ByteArray := prog_3_method_3_code
def yX1_hasHill : MethodName := ⟨RX1, "hasHill", "(I)Z"⟩
abbrev cX1_hasMan : ByteArray := prog_3_method_4_code
def yX1_hasMan : MethodName := ⟨RX1, "hasMan", "(I)Z"⟩
abbrev cX1_rainsOn : ByteArray := prog_3_method_5_code
def yX1_rainsOn : MethodName := ⟨RX1, "rainsOn", "(I)Z"⟩
abbrev cX1_hasLedge : ByteArray := prog_3_method_6_code
def yX1_hasLedge : MethodName := ⟨RX1, "hasLedge", "(II)Z"⟩
abbrev cX1_isOnePlace : ByteArray := prog_3_method_7_code
def yX1_isOnePlace : MethodName := ⟨RX1, "isOnePlace", "(III)Z"⟩
abbrev cX1_forceOf : ByteArray := prog_3_method_8_code
def yX1_forceOf : MethodName := ⟨RX1, "forceOf", "(I)I"⟩
abbrev cX1_addHill : ByteArray := prog_3_method_9_code
def yX1_addHill : MethodName := ⟨RX1, "addHill", "([I)V"⟩
abbrev cX1_addJoin : ByteArray := prog_3_method_10_code
def yX1_addJoin : MethodName := ⟨RX1, "addJoin", "([I)V"⟩
abbrev cX1_addMan : ByteArray := prog_3_method_11_code
def yX1_addMan : MethodName := ⟨RX1, "addMan", "(I)V"⟩
def RX2 : String := "DuskStones$Moment"
def TX2 : u_T := fun k => match k with
  | 0 => ("DuskStones$Moment", "day", "I", false)
  | 1 => ("DuskStones$Moment", "hour", "I", false)
  | 2 => ("DuskStones$Moment", "step", "[I", true)
  | 3 => ("DuskStones$Moment", "rolled", "[I", true)
  | 4 => ("DuskStones$Moment", "strength", "[I", true)
  | 5 => ("DuskStones$Moment", "order", "[I", true)
  | 6 => ("DuskStones$Moment", "evening", "[I", true)
  | _ => ("DuskStones$Moment", "evenings", "I", false)
def tyX2 : Nat → FieldType := fun k => match k with
  | 0 => .int
  | 1 => .int
  | 2 => .array .int
  | 3 => .array .int
  | 4 => .array .int
  | 5 => .array .int
  | 6 => .array .int
  | _ => .int
theorem nmX2 : ∀ a, a < 8 → ∀ b, b < 8 → a ≠ b → (TX2 a).2.1 ≠ (TX2 b).2.1 := by decide +kernel
theorem tyX2_ok : ∀ k, k < 8 → parseFieldDescriptor (TX2 k).2.2.1 = some (tyX2 k) := by decide +kernel
abbrev cX2_init : ByteArray := prog_4_method_1_code
def yX2_init : MethodName := ⟨RX2, "<init>", "()V"⟩
abbrev cX2_begin : ByteArray := prog_4_method_2_code
def yX2_begin : MethodName := ⟨RX2, "begin", "(LDuskStones$Land;)V"⟩
abbrev cX2_copyFrom : ByteArray := prog_4_method_3_code
def yX2_copyFrom : MethodName := ⟨RX2, "copyFrom", "(LDuskStones$Moment;)V"⟩
abbrev cX2_isOver : ByteArray := prog_4_method_4_code
def yX2_isOver : MethodName := ⟨RX2, "isOver", "(LDuskStones$Land;I)Z"⟩
abbrev cX2_overBits : ByteArray := prog_4_method_5_code
def yX2_overBits : MethodName := ⟨RX2, "overBits", "(LDuskStones$Land;)I"⟩
abbrev cX2_sizeNow : ByteArray := prog_4_method_6_code
def yX2_sizeNow : MethodName := ⟨RX2, "sizeNow", "(LDuskStones$Land;I)I"⟩
abbrev cX2_needOf : ByteArray := prog_4_method_7_code
def yX2_needOf : MethodName := ⟨RX2, "needOf", "(LDuskStones$Land;I)I"⟩
abbrev cX2_hoursLeft : ByteArray := prog_4_method_8_code
def yX2_hoursLeft : MethodName := ⟨RX2, "hoursLeft", "(LDuskStones$Land;)I"⟩
abbrev cX2_menAt : ByteArray := prog_4_method_9_code
def yX2_menAt : MethodName := ⟨RX2, "menAt", "(LDuskStones$Land;I)I"⟩
abbrev cX2_strengthAt : ByteArray := prog_4_method_10_code
def yX2_strengthAt : MethodName := ⟨RX2, "strengthAt", "(LDuskStones$Land;I)I"⟩
abbrev cX2_strengthAfter : ByteArray := prog_4_method_11_code
def yX2_strengthAfter : MethodName := ⟨RX2, "strengthAfter", "(LDuskStones$Land;I)I"⟩
abbrev cX2_blockersAt : ByteArray := prog_4_method_12_code
def yX2_blockersAt : MethodName := ⟨RX2, "blockersAt", "(LDuskStones$Land;II)I"⟩
abbrev cX2_freeSteps : ByteArray := prog_4_method_13_code
def yX2_freeSteps : MethodName := ⟨RX2, "freeSteps", "(LDuskStones$Land;I)I"⟩
abbrev cX2_passHour : ByteArray := prog_4_method_14_code
def yX2_passHour : MethodName := ⟨RX2, "passHour", "(LDuskStones$Land;)I"⟩
abbrev cX2_canComeUp : ByteArray := prog_4_method_15_code
def yX2_canComeUp : MethodName := ⟨RX2, "canComeUp", "(LDuskStones$Land;I)Z"⟩
abbrev cX2_passDay : ByteArray := prog_4_method_16_code
def yX2_passDay : MethodName := ⟨RX2, "passDay", "(LDuskStones$Land;)V"⟩
abbrev cX2_fallDusk : ByteArray := prog_4_method_17_code
def yX2_fallDusk : MethodName := ⟨RX2, "fallDusk", "(LDuskStones$Land;Z)V"⟩
abbrev cX2_rest : ByteArray := prog_4_method_18_code
def yX2_rest : MethodName := ⟨RX2, "rest", "(LDuskStones$Land;)V"⟩
abbrev cX2_writeDown : ByteArray := prog_4_method_19_code
def yX2_writeDown : MethodName := ⟨RX2, "writeDown", "(LDuskStones$Land;)V"⟩
abbrev cX2_writtenStep : ByteArray := prog_4_method_20_code
def yX2_writtenStep : MethodName := ⟨RX2, "writtenStep", "(II)I"⟩
def RX3 : String := "DuskStones$Reader"
def TX3 : u_T := fun k => match k with
  | 0 => ("DuskStones$Reader", "text", "[C", true)
  | 1 => ("DuskStones$Reader", "numbers", "[I", true)
  | 2 => ("DuskStones$Reader", "length", "I", false)
  | 3 => ("DuskStones$Reader", "next", "I", false)
  | 4 => ("DuskStones$Reader", "place", "I", false)
  | 5 => ("DuskStones$Reader", "token", "I", false)
  | _ => ("DuskStones$Reader", "value", "I", false)
def tyX3 : Nat → FieldType := fun k => match k with
  | 0 => .array .char
  | 1 => .array .int
  | 2 => .int
  | 3 => .int
  | 4 => .int
  | 5 => .int
  | _ => .int
theorem nmX3 : ∀ a, a < 7 → ∀ b, b < 7 → a ≠ b → (TX3 a).2.1 ≠ (TX3 b).2.1 := by decide +kernel
theorem tyX3_ok : ∀ k, k < 7 → parseFieldDescriptor (TX3 k).2.2.1 = some (tyX3 k) := by decide +kernel
abbrev cX3_init : ByteArray := prog_5_method_1_code
def yX3_init : MethodName := ⟨RX3, "<init>", "([C)V"⟩
abbrev cX3_readAll : ByteArray := prog_5_method_2_code
def yX3_readAll : MethodName := ⟨RX3, "readAll", "(ILDuskStones$Land;)I"⟩
abbrev cX3_readItem : ByteArray := prog_5_method_3_code
def yX3_readItem : MethodName := ⟨RX3, "readItem", "(LDuskStones$Land;)Z"⟩
abbrev cX3_canStand : ByteArray := prog_5_method_4_code
def yX3_canStand : MethodName := ⟨RX3, "canStand", "(ILDuskStones$Land;)Z"⟩
abbrev cX3_numbersOf : ByteArray := prog_5_method_5_code
def yX3_numbersOf : MethodName := ⟨RX3, "numbersOf", "(I)I"⟩
abbrev cX3_fits : ByteArray := prog_5_method_6_code
def yX3_fits : MethodName := ⟨RX3, "fits", "(IILDuskStones$Land;)Z"⟩
abbrev cX3_fitsJoin : ByteArray := prog_5_method_7_code
def yX3_fitsJoin : MethodName := ⟨RX3, "fitsJoin", "(ILDuskStones$Land;)Z"⟩
abbrev cX3_isWithin : ByteArray := prog_5_method_8_code
def yX3_isWithin : MethodName := ⟨RX3, "isWithin", "(II)Z"⟩
abbrev cX3_addItem : ByteArray := prog_5_method_9_code
def yX3_addItem : MethodName := ⟨RX3, "addItem", "(ILDuskStones$Land;)V"⟩
abbrev cX3_take : ByteArray := prog_5_method_10_code
def yX3_take : MethodName := ⟨RX3, "take", "()V"⟩
abbrev cX3_takeNumber : ByteArray := prog_5_method_11_code
def yX3_takeNumber : MethodName := ⟨RX3, "takeNumber", "()V"⟩
abbrev cX3_isDigit : ByteArray := prog_5_method_12_code
def yX3_isDigit : MethodName := ⟨RX3, "isDigit", "(C)Z"⟩
abbrev cX3_isSign : ByteArray := prog_5_method_13_code
def yX3_isSign : MethodName := ⟨RX3, "isSign", "(C)Z"⟩
def RX4 : String := "DuskStones"
def TX4 : u_T := fun k => match k with
  | 0 => ("DuskStones", "text", "[C", true)
  | 1 => ("DuskStones", "letters", "I", false)
  | 2 => ("DuskStones", "reader", "LDuskStones$Reader;", true)
  | 3 => ("DuskStones", "land", "LDuskStones$Land;", false)
  | 4 => ("DuskStones", "draft", "LDuskStones$Land;", false)
  | 5 => ("DuskStones", "present", "LDuskStones$Moment;", true)
  | 6 => ("DuskStones", "trial", "LDuskStones$Moment;", true)
  | 7 => ("DuskStones", "past", "[LDuskStones$Moment;", true)
  | 8 => ("DuskStones", "pastCount", "I", false)
  | 9 => ("DuskStones", "images", "[LDuskStones$Moment;", true)
  | 10 => ("DuskStones", "kept", "[Z", true)
  | 11 => ("DuskStones", "seenHill", "[I", true)
  | 12 => ("DuskStones", "seenStep", "[I", true)
  | 13 => ("DuskStones", "seenCount", "I", false)
  | 14 => ("DuskStones", "climb", "LDuskStones$Climb;", true)
  | _ => ("DuskStones", "traceSum", "J", false)
def tyX4 : Nat → FieldType := fun k => match k with
  | 0 => .array .char
  | 1 => .int
  | 2 => .object "DuskStones$Reader"
  | 3 => .object "DuskStones$Land"
  | 4 => .object "DuskStones$Land"
  | 5 => .object "DuskStones$Moment"
  | 6 => .object "DuskStones$Moment"
  | 7 => .array (.object "DuskStones$Moment")
  | 8 => .int
  | 9 => .array (.object "DuskStones$Moment")
  | 10 => .array .boolean
  | 11 => .array .int
  | 12 => .array .int
  | 13 => .int
  | 14 => .object "DuskStones$Climb"
  | _ => .long
theorem nmX4 : ∀ a, a < 16 → ∀ b, b < 16 → a ≠ b → (TX4 a).2.1 ≠ (TX4 b).2.1 := by decide +kernel
theorem tyX4_ok : ∀ k, k < 16 → parseFieldDescriptor (TX4 k).2.2.1 = some (tyX4 k) := by decide +kernel
abbrev cX4_init : ByteArray := prog_1_method_1_code
def yX4_init : MethodName := ⟨RX4, "<init>", "()V"⟩
abbrev cX4_type : ByteArray := prog_1_method_2_code
def yX4_type : MethodName := ⟨RX4, "type", "(I)I"⟩
abbrev cX4_clear : ByteArray := prog_1_method_3_code
def yX4_clear : MethodName := ⟨RX4, "clear", "()I"⟩
abbrev cX4_hills : ByteArray := prog_1_method_4_code
def yX4_hills : MethodName := ⟨RX4, "hills", "()I"⟩
abbrev cX4_hill : ByteArray := prog_1_method_5_code
def yX4_hill : MethodName := ⟨RX4, "hill", "(II)I"⟩
abbrev cX4_stone : ByteArray := prog_1_method_6_code
def yX4_stone : MethodName := ⟨RX4, "stone", "(II)I"⟩
abbrev cX4_man : ByteArray := prog_1_method_7_code
def yX4_man : MethodName := ⟨RX4, "man", "(II)I"⟩
abbrev cX4_now : ByteArray := prog_1_method_8_code
def yX4_now : MethodName := ⟨RX4, "now", "(I)I"⟩
abbrev cX4_order : ByteArray := prog_1_method_9_code
def yX4_order : MethodName := ⟨RX4, "order", "(II)I"⟩
abbrev cX4_hour : ByteArray := prog_1_method_10_code
def yX4_hour : MethodName := ⟨RX4, "hour", "()I"⟩
abbrev cX4_undo : ByteArray := prog_1_method_11_code
def yX4_undo : MethodName := ⟨RX4, "undo", "()I"⟩
abbrev cX4_remember : ByteArray := prog_1_method_12_code
def yX4_remember : MethodName := ⟨RX4, "remember", "()V"⟩
abbrev cX4_highest : ByteArray := prog_1_method_13_code
def yX4_highest : MethodName := ⟨RX4, "highest", "(II)I"⟩
abbrev cX4_days : ByteArray := prog_1_method_14_code
def yX4_days : MethodName := ⟨RX4, "days", "(I)I"⟩
abbrev cX4_little : ByteArray := prog_1_method_15_code
def yX4_little : MethodName := ⟨RX4, "little", "(I)I"⟩
abbrev cX4_crew : ByteArray := prog_1_method_16_code
def yX4_crew : MethodName := ⟨RX4, "crew", "(I)I"⟩
abbrev cX4_blocks : ByteArray := prog_1_method_17_code
def yX4_blocks : MethodName := ⟨RX4, "blocks", "(I)I"⟩
abbrev cX4_allPush : ByteArray := prog_1_method_18_code
def yX4_allPush : MethodName := ⟨RX4, "allPush", "(I)V"⟩
abbrev cX4_written : ByteArray := prog_1_method_19_code
def yX4_written : MethodName := ⟨RX4, "written", "(II)I"⟩
abbrev cX4_saw : ByteArray := prog_1_method_20_code
def yX4_saw : MethodName := ⟨RX4, "saw", "(II)I"⟩
abbrev cX4_forget : ByteArray := prog_1_method_21_code
def yX4_forget : MethodName := ⟨RX4, "forget", "()I"⟩
abbrev cX4_evening : ByteArray := prog_1_method_22_code
def yX4_evening : MethodName := ⟨RX4, "evening", "()I"⟩
abbrev cX4_odds : ByteArray := prog_1_method_23_code
def yX4_odds : MethodName := ⟨RX4, "odds", "(IIII)J"⟩
abbrev cX4_wear : ByteArray := prog_1_method_24_code
def yX4_wear : MethodName := ⟨RX4, "wear", "(II)I"⟩
abbrev cX4_agrees : ByteArray := prog_1_method_25_code
def yX4_agrees : MethodName := ⟨RX4, "agrees", "(I)Z"⟩
abbrev cX4_rainWeight : ByteArray := prog_1_method_26_code
def yX4_rainWeight : MethodName := ⟨RX4, "rainWeight", "(III)J"⟩
abbrev cX4_isOverBehind : ByteArray := prog_1_method_27_code
def yX4_isOverBehind : MethodName := ⟨RX4, "isOverBehind", "(III)Z"⟩
abbrev cX4_power : ByteArray := prog_1_method_28_code
def yX4_power : MethodName := ⟨RX4, "power", "(II)J"⟩
abbrev cX4_commonDivisor : ByteArray := prog_1_method_29_code
def yX4_commonDivisor : MethodName := ⟨RX4, "commonDivisor", "(JJ)J"⟩
abbrev cX4_rate : ByteArray := prog_1_method_30_code
def yX4_rate : MethodName := ⟨RX4, "rate", "(II)I"⟩
abbrev cX4_keep : ByteArray := prog_1_method_31_code
def yX4_keep : MethodName := ⟨RX4, "keep", "(I)I"⟩
abbrev cX4_back : ByteArray := prog_1_method_32_code
def yX4_back : MethodName := ⟨RX4, "back", "(I)I"⟩
abbrev cX4_count : ByteArray := prog_1_method_33_code
def yX4_count : MethodName := ⟨RX4, "count", "(I)I"⟩
abbrev cX4_trace : ByteArray := prog_1_method_34_code
def yX4_trace : MethodName := ⟨RX4, "trace", "()J"⟩
abbrev cX4_rateAs : ByteArray := prog_1_method_35_code
def yX4_rateAs : MethodName := ⟨RX4, "rateAs", "(II)I"⟩
def RX5 : String := "DuskStonesModel"
def TX5 : u_T := fun k => match k with
  | 0 => ("DuskStonesModel", "w", "[I", true)
  | 1 => ("DuskStonesModel", "isKept", "[Z", true)
  | 2 => ("DuskStonesModel", "high", "[I", true)
  | 3 => ("DuskStonesModel", "slope", "[I", true)
  | 4 => ("DuskStonesModel", "ledges", "[I", true)
  | 5 => ("DuskStonesModel", "size", "[I", true)
  | 6 => ("DuskStonesModel", "joinOne", "[I", true)
  | 7 => ("DuskStonesModel", "joinTwo", "[I", true)
  | 8 => ("DuskStonesModel", "joinFrom", "[I", true)
  | 9 => ("DuskStonesModel", "force", "[I", true)
  | 10 => ("DuskStonesModel", "hills", "I", false)
  | 11 => ("DuskStonesModel", "joins", "I", false)
  | 12 => ("DuskStonesModel", "men", "I", false)
  | 13 => ("DuskStonesModel", "hours", "I", false)
  | 14 => ("DuskStonesModel", "rain", "I", false)
  | 15 => ("DuskStonesModel", "newHills", "I", false)
  | 16 => ("DuskStonesModel", "newJoins", "I", false)
  | 17 => ("DuskStonesModel", "newMen", "I", false)
  | 18 => ("DuskStonesModel", "newHours", "I", false)
  | 19 => ("DuskStonesModel", "newRain", "I", false)
  | 20 => ("DuskStonesModel", "told", "I", false)
  | 21 => ("DuskStonesModel", "text", "[I", true)
  | 22 => ("DuskStonesModel", "textSize", "I", false)
  | 23 => ("DuskStonesModel", "at", "I", false)
  | 24 => ("DuskStonesModel", "first", "I", false)
  | 25 => ("DuskStonesModel", "kind", "I", false)
  | 26 => ("DuskStonesModel", "number", "I", false)
  | 27 => ("DuskStonesModel", "faultAt", "I", false)
  | 28 => ("DuskStonesModel", "undoMany", "I", false)
  | 29 => ("DuskStonesModel", "sightHill", "[I", true)
  | 30 => ("DuskStonesModel", "sightStep", "[I", true)
  | 31 => ("DuskStonesModel", "sightMany", "I", false)
  | _ => ("DuskStonesModel", "trace", "J", false)
def tyX5 : Nat → FieldType := fun k => match k with
  | 0 => .array .int
  | 1 => .array .boolean
  | 2 => .array .int
  | 3 => .array .int
  | 4 => .array .int
  | 5 => .array .int
  | 6 => .array .int
  | 7 => .array .int
  | 8 => .array .int
  | 9 => .array .int
  | 10 => .int
  | 11 => .int
  | 12 => .int
  | 13 => .int
  | 14 => .int
  | 15 => .int
  | 16 => .int
  | 17 => .int
  | 18 => .int
  | 19 => .int
  | 20 => .int
  | 21 => .array .int
  | 22 => .int
  | 23 => .int
  | 24 => .int
  | 25 => .int
  | 26 => .int
  | 27 => .int
  | 28 => .int
  | 29 => .array .int
  | 30 => .array .int
  | 31 => .int
  | _ => .long
theorem nmX5 : ∀ a, a < 33 → ∀ b, b < 33 → a ≠ b → (TX5 a).2.1 ≠ (TX5 b).2.1 := by decide +kernel
theorem tyX5_ok : ∀ k, k < 33 → parseFieldDescriptor (TX5 k).2.2.1 = some (tyX5 k) := by decide +kernel
abbrev cX5_init : ByteArray := prog_7_method_1_code
def yX5_init : MethodName := ⟨RX5, "<init>", "()V"⟩
abbrev cX5_in : ByteArray := prog_7_method_3_code
def yX5_in : MethodName := ⟨RX5, "in", "(JJJ)Z"⟩
abbrev cX5_one : ByteArray := prog_7_method_4_code
def yX5_one : MethodName := ⟨RX5, "one", "(Z)I"⟩
abbrev cX5_has : ByteArray := prog_7_method_5_code
def yX5_has : MethodName := ⟨RX5, "has", "(II)Z"⟩
abbrev cX5_ones : ByteArray := prog_7_method_6_code
def yX5_ones : MethodName := ⟨RX5, "ones", "(I)I"⟩
abbrev cX5_type : ByteArray := prog_7_method_7_code
def yX5_type : MethodName := ⟨RX5, "type", "(I)I"⟩
abbrev cX5_clear : ByteArray := prog_7_method_8_code
def yX5_clear : MethodName := ⟨RX5, "clear", "()I"⟩
abbrev cX5_isFigure : ByteArray := prog_7_method_9_code
def yX5_isFigure : MethodName := ⟨RX5, "isFigure", "(I)Z"⟩
abbrev cX5_next : ByteArray := prog_7_method_10_code
def yX5_next : MethodName := ⟨RX5, "next", "()V"⟩
abbrev cX5_want : ByteArray := prog_7_method_11_code
def yX5_want : MethodName := ⟨RX5, "want", "(Z)Z"⟩
abbrev cX5_takeNumber : ByteArray := prog_7_method_12_code
def yX5_takeNumber : MethodName := ⟨RX5, "takeNumber", "(II)I"⟩
abbrev cX5_takeHill : ByteArray := prog_7_method_13_code
def yX5_takeHill : MethodName := ⟨RX5, "takeHill", "()V"⟩
abbrev cX5_takeJoin : ByteArray := prog_7_method_14_code
def yX5_takeJoin : MethodName := ⟨RX5, "takeJoin", "()V"⟩
abbrev cX5_takeItem : ByteArray := prog_7_method_15_code
def yX5_takeItem : MethodName := ⟨RX5, "takeItem", "()V"⟩
abbrev cX5_hills : ByteArray := prog_7_method_16_code
def yX5_hills : MethodName := ⟨RX5, "hills", "()I"⟩
abbrev cX5_begin : ByteArray := prog_7_method_17_code
def yX5_begin : MethodName := ⟨RX5, "begin", "()V"⟩
abbrev cX5_isHill : ByteArray := prog_7_method_18_code
def yX5_isHill : MethodName := ⟨RX5, "isHill", "(I)Z"⟩
abbrev cX5_isMan : ByteArray := prog_7_method_19_code
def yX5_isMan : MethodName := ⟨RX5, "isMan", "(I)Z"⟩
abbrev cX5_hill : ByteArray := prog_7_method_20_code
def yX5_hill : MethodName := ⟨RX5, "hill", "(II)I"⟩
abbrev cX5_sizeBy : ByteArray := prog_7_method_21_code
def yX5_sizeBy : MethodName := ⟨RX5, "sizeBy", "(II)I"⟩
abbrev cX5_sizeIn : ByteArray := prog_7_method_22_code
def yX5_sizeIn : MethodName := ⟨RX5, "sizeIn", "(II)I"⟩
abbrev cX5_isOver : ByteArray := prog_7_method_23_code
def yX5_isOver : MethodName := ⟨RX5, "isOver", "(II)Z"⟩
abbrev cX5_stone : ByteArray := prog_7_method_24_code
def yX5_stone : MethodName := ⟨RX5, "stone", "(II)I"⟩
abbrev cX5_man : ByteArray := prog_7_method_25_code
def yX5_man : MethodName := ⟨RX5, "man", "(II)I"⟩
abbrev cX5_over : ByteArray := prog_7_method_26_code
def yX5_over : MethodName := ⟨RX5, "over", "()I"⟩
abbrev cX5_now : ByteArray := prog_7_method_27_code
def yX5_now : MethodName := ⟨RX5, "now", "(I)I"⟩
abbrev cX5_blocksIn : ByteArray := prog_7_method_28_code
def yX5_blocksIn : MethodName := ⟨RX5, "blocksIn", "(III)I"⟩
abbrev cX5_copy : ByteArray := prog_7_method_29_code
def yX5_copy : MethodName := ⟨RX5, "copy", "(II)V"⟩
abbrev cX5_remember : ByteArray := prog_7_method_30_code
def yX5_remember : MethodName := ⟨RX5, "remember", "()V"⟩
abbrev cX5_order : ByteArray := prog_7_method_31_code
def yX5_order : MethodName := ⟨RX5, "order", "(II)I"⟩
abbrev cX5_pushOf : ByteArray := prog_7_method_32_code
def yX5_pushOf : MethodName := ⟨RX5, "pushOf", "(II)I"⟩
abbrev cX5_overIn : ByteArray := prog_7_method_33_code
def yX5_overIn : MethodName := ⟨RX5, "overIn", "(I)I"⟩
abbrev cX5_tire : ByteArray := prog_7_method_34_code
def yX5_tire : MethodName := ⟨RX5, "tire", "(II)V"⟩
abbrev cX5_push : ByteArray := prog_7_method_35_code
def yX5_push : MethodName := ⟨RX5, "push", "(I)I"⟩
abbrev cX5_dusk : ByteArray := prog_7_method_36_code
def yX5_dusk : MethodName := ⟨RX5, "dusk", "(IZ)V"⟩
abbrev cX5_rainsOn : ByteArray := prog_7_method_37_code
def yX5_rainsOn : MethodName := ⟨RX5, "rainsOn", "(I)Z"⟩
abbrev cX5_hour : ByteArray := prog_7_method_38_code
def yX5_hour : MethodName := ⟨RX5, "hour", "()I"⟩
abbrev cX5_undo : ByteArray := prog_7_method_39_code
def yX5_undo : MethodName := ⟨RX5, "undo", "()I"⟩
abbrev cX5_orderAll : ByteArray := prog_7_method_40_code
def yX5_orderAll : MethodName := ⟨RX5, "orderAll", "(III)V"⟩
abbrev cX5_stepBy : ByteArray := prog_7_method_41_code
def yX5_stepBy : MethodName := ⟨RX5, "stepBy", "(III)I"⟩
abbrev cX5_isCode : ByteArray := prog_7_method_42_code
def yX5_isCode : MethodName := ⟨RX5, "isCode", "(II)Z"⟩
abbrev cX5_highest : ByteArray := prog_7_method_43_code
def yX5_highest : MethodName := ⟨RX5, "highest", "(II)I"⟩
abbrev cX5_goToDusk : ByteArray := prog_7_method_44_code
def yX5_goToDusk : MethodName := ⟨RX5, "goToDusk", "(IZ)V"⟩
abbrev cX5_days : ByteArray := prog_7_method_45_code
def yX5_days : MethodName := ⟨RX5, "days", "(I)I"⟩
abbrev cX5_isOverBy : ByteArray := prog_7_method_46_code
def yX5_isOverBy : MethodName := ⟨RX5, "isOverBy", "(II)Z"⟩
abbrev cX5_little : ByteArray := prog_7_method_47_code
def yX5_little : MethodName := ⟨RX5, "little", "(I)I"⟩
abbrev cX5_crew : ByteArray := prog_7_method_48_code
def yX5_crew : MethodName := ⟨RX5, "crew", "(I)I"⟩
abbrev cX5_blocks : ByteArray := prog_7_method_49_code
def yX5_blocks : MethodName := ⟨RX5, "blocks", "(I)I"⟩
abbrev cX5_written : ByteArray := prog_7_method_50_code
def yX5_written : MethodName := ⟨RX5, "written", "(II)I"⟩
abbrev cX5_saw : ByteArray := prog_7_method_51_code
def yX5_saw : MethodName := ⟨RX5, "saw", "(II)I"⟩
abbrev cX5_forget : ByteArray := prog_7_method_52_code
def yX5_forget : MethodName := ⟨RX5, "forget", "()I"⟩
abbrev cX5_evening : ByteArray := prog_7_method_53_code
def yX5_evening : MethodName := ⟨RX5, "evening", "()I"⟩
abbrev cX5_common : ByteArray := prog_7_method_54_code
def yX5_common : MethodName := ⟨RX5, "common", "(JJ)J"⟩
abbrev cX5_odds : ByteArray := prog_7_method_55_code
def yX5_odds : MethodName := ⟨RX5, "odds", "(IIII)J"⟩
abbrev cX5_wear : ByteArray := prog_7_method_56_code
def yX5_wear : MethodName := ⟨RX5, "wear", "(II)I"⟩
abbrev cX5_stoneRate : ByteArray := prog_7_method_57_code
def yX5_stoneRate : MethodName := ⟨RX5, "stoneRate", "(I)I"⟩
abbrev cX5_roundRate : ByteArray := prog_7_method_58_code
def yX5_roundRate : MethodName := ⟨RX5, "roundRate", "(I)I"⟩
abbrev cX5_splitRate : ByteArray := prog_7_method_59_code
def yX5_splitRate : MethodName := ⟨RX5, "splitRate", "(I)I"⟩
abbrev cX5_wetRate : ByteArray := prog_7_method_60_code
def yX5_wetRate : MethodName := ⟨RX5, "wetRate", "(I)I"⟩
abbrev cX5_lentRate : ByteArray := prog_7_method_61_code
def yX5_lentRate : MethodName := ⟨RX5, "lentRate", "(I)I"⟩
abbrev cX5_hollowRate : ByteArray := prog_7_method_62_code
def yX5_hollowRate : MethodName := ⟨RX5, "hollowRate", "(I)I"⟩
abbrev cX5_rate : ByteArray := prog_7_method_63_code
def yX5_rate : MethodName := ⟨RX5, "rate", "(II)I"⟩
abbrev cX5_keep : ByteArray := prog_7_method_64_code
def yX5_keep : MethodName := ⟨RX5, "keep", "(I)I"⟩
abbrev cX5_back : ByteArray := prog_7_method_65_code
def yX5_back : MethodName := ⟨RX5, "back", "(I)I"⟩
abbrev cX5_count : ByteArray := prog_7_method_66_code
def yX5_count : MethodName := ⟨RX5, "count", "(I)I"⟩
abbrev cX5_trace : ByteArray := prog_7_method_67_code
def yX5_trace : MethodName := ⟨RX5, "trace", "()J"⟩
def RJ6 : String := "java/lang/Integer"
abbrev cJ6_bitCount_0f7a4 : ByteArray := prog_8_method_49_code
def yJ6_bitCount_0f7a4 : MethodName := ⟨RJ6, "bitCount", "(I)I"⟩
def RJ9 : String := "java/lang/Math"
abbrev cJ9_max_7cf53 : ByteArray := prog_9_method_65_code
def yJ9_max_7cf53 : MethodName := ⟨RJ9, "max", "(II)I"⟩
abbrev cJ9_min_7cf53 : ByteArray := prog_9_method_69_code
def yJ9_min_7cf53 : MethodName := ⟨RJ9, "min", "(II)I"⟩
def RJ10 : String := "java/lang/System"
def RL : String := "DuskStonesLaw"
abbrev cL_law : ByteArray := code
def yL_law : MethodName := ⟨RL, "law", "([I)Z"⟩
abbrev vwCl : List vw_C := [(RX0, TX0, 7), (RX1, TX1, 15), (RX2, TX2, 8), (RX3, TX3, 7), (RX4, TX4, 16), (RX5, TX5, 33)]
